/-! ===== the relation of both objects between two calls ===== -/
def TpF (n : Nat) (l1 l2 : Int32) (by1 ta : Nat → Int32) : Prop := n ≤ 400 ∧ l1 = iN n ∧ l2 = iN n ∧ ∀ i, i < 400 → by1 i &&& 255 = ta i ∧ bd (ta i) 255
def RfF (s1 s2 : Int32) (r1 r2 : Nat → Int32) : Prop := s1 = s2 ∧ r1 0 = r2 1 ∧ r1 1 = r2 2 ∧ r1 2 = r2 3 ∧ r1 3 = r2 5 ∧ r1 4 = r2 6
/-- deed d of kind s takes the places 7 to 29 of the row from A to B -/
def UStep (nP nF nT : Nat) (d : Nat → Int32) (s : Int32) (A B : Nat → Int32) : Prop :=
  d 0 = s ∧ (∀ i, i < 23 → okI nP nF nT 999 (7 + i) (A i)) ∧
  ((s = 0 ∧ ∃ f, f < nF ∧ d 1 = iN f ∧ ∀ i, i < 23 → A i = up B (10 + f) (d 2) i)
  ∨ (s = 1 ∧ ∃ t, t < nT ∧ d 1 = iN t ∧ ∀ i, i < 23 → A i = up B (17 + t) (d 2) i)
  ∨ (s = 2 ∧ ∃ x y, x < 6 ∧ y < 6 ∧ x ≠ y ∧ d 1 = iN x ∧ d 2 = iN y ∧ ∀ i, i < 23 → A i = up (up B (4 + x) (B (4 + x) ^^^ (1 <<< iN y))) (4 + y) (B (4 + y) ^^^ (1 <<< iN x)) i)
  ∨ (s = 3 ∧ ∀ i, i < 23 → A i = up (up (up (up (up B 0 (B 0 - 1)) 3 (d 3)) 14 (d 4)) 15 (d 5)) 16 (d 6) i))
/-- the undone k-th state: the k-th snapshot, the last is the row itself -/
def snap (n : Nat) (R u : Nat → Int32) (k i : Nat) : Int32 := if k = n then R (7 + i) else u (23 * k + i)
def UnF (nP nF nT n : Nat) (l1 l2 : Int32) (d so u R : Nat → Int32) : Prop := n ≤ 16 ∧ l1 = iN n ∧ l2 = iN n ∧ ∀ k, k < n → UStep nP nF nT (fun m => d (7 * k + m)) (so k) (snap n R u k) (snap n R u (k + 1))
def DkF (z f1 b1 f2 b2 : Int32) (on sw dr : Nat → Int32) : Prop := (z = 0 ∧ f2 = -1 ∧ b2 = -1) ∨ (z = 1 ∧ ∃ f b, f ≤ 4 ∧ b ≤ 3 ∧ f1 = iN f ∧ f2 = iN f ∧ b1 = iN b ∧ b2 = iN b ∧ (∀ i, i < f → on i = dr (10 + i)) ∧ (∀ i, i < b → sw i = dr (14 + i)))
def CWF (w ow hd ac bt : Nat → Int64) : Prop := (w 0 = 605677 ∧ w 1 = 3554411 ∧ w 2 = 278194 ∧ w 3 = 68295858 ∧ w 4 = 212363 ∧ w 5 = 398579 ∧ w 6 = 16959592 ∧ w 7 = 271592 ∧ w 8 = 441828) ∧ (ow 0 = 278194 ∧ ow 1 = 146885 ∧ ow 2 = 404362868 ∧ ow 3 = 102407444 ∧ ow 4 = 3554411 ∧ ow 5 = 494 ∧ ow 6 = 605677 ∧ ow 7 = 52) ∧ (hd 0 = 679650899 ∧ hd 1 = 244915 ∧ hd 2 = 67155) ∧ (ac 0 = 659104901 ∧ ac 1 = 17076 ∧ ac 2 = 146930 ∧ ac 3 = 525939) ∧ (bt 0 = 655 ∧ bt 1 = 494 ∧ bt 2 = 89)
/-- a House and a row that say the same -/
def Cr (b : Nat) (σ : Hp) (nP nF nB nT nS nL H : Nat) (B : Book) (R : Nat → Int32) : Prop := WF nP nF nB nT nS nL H R ∧ HHm b σ R ∧ LRow R B nL ∧ LHouse b σ B nL
def ImF (b : Nat) (σ : Hp) (z1 z2 : Int32) (R : Nat → Int32) : Prop := z1 = z2 ∧ (z1 = 0 ∨ (z1 = 1 ∧ ∃ nP nF nB nT nS nL B, Cr b σ nP nF nB nT nS nL 999 B R))
/-- what the Houses hold of texts: none, or a text -/
def TxF (r : Nat → Nat → Option Nat) (k : Nat → Nat) (n : Nat) : Prop := ∀ b, b = 1 ∨ b = 59 ∨ b = 78 → ∀ j, j < 6 → r (b + 15) j = none ∨ ∃ t, r (b + 15) j = some t ∧ k t = 7 ∧ t < n
theorem TxF.k {r : Nat → Nat → Option Nat} {k : Nat → Nat} {n : Nat} (h : TxF r k n) (b : Nat) (hb : b = 1 ∨ b = 59 ∨ b = 78) (j : Nat) (hj : j < 6) : r (b + 15) j = none ∨ ∃ t, r (b + 15) j = some t ∧ k t = 7 := (h b hb j hj).imp id (fun ⟨t, a, c, _⟩ => ⟨t, a, c⟩)
def Im (σ : Hp) : Prop := ImF 59 σ (zi σ 97 0) (zi σ 129 0) (fun i => zi σ 128 i) ∧ ImF 78 σ (zi σ 97 1) (zi σ 129 1) (fun i => zi σ 128 (5578 + i)) ∧ TxF (zr σ) (zk σ) (zn σ)
def Tp (n : Nat) (σ : Hp) : Prop := TpF n (zi σ 98 1) (zi σ 125 13) (zi σ 99) (zi σ 134)
def Rf (σ : Hp) : Prop := RfF (zi σ 0 18) (zi σ 125 1) (zi σ 124) (zi σ 126)
def Dk (σ : Hp) : Prop := DkF (zi σ 0 12) (zi σ 39 13) (zi σ 39 14) (zi σ 125 56) (zi σ 125 57) (zi σ 46) (zi σ 47) (zi σ 155)
def CW (σ : Hp) : Prop := CWF (zj σ 140) (zj σ 141) (zj σ 142) (zj σ 152) (zj σ 153)
def Un (nP nF nT n : Nat) (σ : Hp) : Prop := UnF nP nF nT n (zi σ 109 1) (zi σ 125 8) (zi σ 110) (zi σ 131) (zi σ 130) (zi σ 127)
/-- scratches, fault, stopped; no orders are being read -/
def Sm (σ : Hp) : Prop := zi σ 0 16 = zi σ 125 11 ∧ zi σ 0 15 = zi σ 125 18 ∧ zi σ 0 17 = zi σ 125 52 ∧ zi σ 125 20 = 0
/-- all but the row, the House and the deeds -/
def Rest (σ : Hp) : Prop := SK σ ∧ (∃ n, Tp n σ) ∧ Rf σ ∧ Sm σ ∧ CW σ ∧ Dk σ ∧ Im σ
def Rel (σ : Hp) : Prop := Rest σ ∧ ∃ nP nF nB nT nS nL B n, Cr 1 σ nP nF nB nT nS nL 999 B (zi σ 127) ∧ Un nP nF nT n σ
/-- one call of both: the same answer, and the relation holds on -/
def Both {α : Type} (f g : Hp → Option (α × Hp)) (σ : Hp) : Prop := ∃ r σ1 σ2, f σ = some (r, σ1) ∧ g σ1 = some (r, σ2) ∧ zk σ1 125 = 9 ∧ Rel σ2
theorem Both.mk {α : Type} {f g : Hp → Option (α × Hp)} {σ σ1 σ2 : Hp} {r : α} (h1 : f σ = some (r, σ1)) (h2 : g σ1 = some (r, σ2)) (h3 : Rel σ2) (h4 : zk σ1 125 = 9) : Both f g σ := ⟨r, σ1, σ2, h1, h2, h4, h3⟩
/-- laws don't feel what is written below the texts -/
theorem LC1.same {σ σ1 : Hp} {t : Nat} {B : Book} {j : Nat} (h : LC1 σ t B j) (e0 : zn σ ≤ zn σ1) (e1 : ∀ a, 156 ≤ a → a < zn σ → zk σ1 a = zk σ a ∧ zl σ1 a = zl σ a ∧ zr σ1 a = zr σ a ∧ zi σ1 a = zi σ a) : LC1 σ1 t B j := by
  obtain ⟨h1, h2, h3, a, r, h4, h5, h6, h7, h8, h9, h10, h11, h12, h13, h14, h15⟩ := h
  have et := e1 t h1 h2
  have ea := e1 a h6 h7
  have er := e1 r h8 h9
  refine ⟨h1, by omega, by rw [et.1]; exact h3, a, r, by rw [et.2.2.1]; exact h4, by rw [et.2.2.1]; exact h5, h6, by omega, h8, by omega, by rw [ea.1]; exact h10, by rw [er.1]; exact h11, by rw [ea.2.1]; exact h12, by rw [er.2.1]; exact h13, by rw [et.2.2.2]; exact h14, ?_⟩
  rw [ea.2.1, ea.2.2.2, er.2.2.2]
  exact h15
theorem LHouse.zsi {b a k nL : Nat} {σ : Hp} {B : Book} {v : Int32} (h : LHouse b σ B nL) (ha : a < 156) : LHouse b (zsi σ a k v) B nL := by
  intro j hj
  obtain ⟨t, h1, h2⟩ := h j hj
  exact ⟨t, h1, h2.same (Nat.le_refl _) (fun c hc _ => ⟨rfl, rfl, rfl, zi_ne (by omega)⟩)⟩
theorem LHouse.zsj {b a k nL : Nat} {σ : Hp} {B : Book} {v : Int64} (h : LHouse b σ B nL) : LHouse b (zsj σ a k v) B nL := by
  intro j hj
  obtain ⟨t, h1, h2⟩ := h j hj
  exact ⟨t, h1, h2.same (Nat.le_refl _) (fun c _ _ => ⟨rfl, rfl, rfl, rfl⟩)⟩
theorem LR1.congr {R R1 : Nat → Int32} {B : Book} {j : Nat} (h : LR1 R B j) (e : ∀ i, 178 ≤ i → R1 i = R i) : LR1 R1 B j := by
  unfold LR1 at h ⊢
  have e1 : opL R1 j = opL R j := by
    funext k
    exact e _ (by omega)
  have e2 : arL R1 j = arL R j := by
    funext k
    exact e _ (by omega)
  rw [e1, e2, e _ (show 178 ≤ 178 + 900 * j + 1 by omega)]
  refine ⟨h.1, h.2.1, fun c hc => ?_⟩
  rw [e _ (show 178 ≤ 178 + 900 * j + 2 + 8 * c by omega)]
  obtain ⟨g1, g2, k3, k4, k5, k6, q⟩ := h.2.2 c hc
  refine ⟨g1, g2, k3, k4, k5, k6, ?_⟩
  rw [e _ (show 178 ≤ 178 + 900 * j + 2 + 8 * c + 3 by omega), e _ (show 178 ≤ 178 + 900 * j + 2 + 8 * c + 4 by omega), e _ (show 178 ≤ 178 + 900 * j + 2 + 8 * c + 5 by omega), e _ (show 178 ≤ 178 + 900 * j + 2 + 8 * c + 6 by omega)]
  exact q
theorem LRow.up {R : Nat → Int32} {B : Book} {nL i : Nat} {v : Int32} (h : LRow R B nL) (hi : i < 178) : LRow (up R i v) B nL := fun j hj => (h j hj).congr (fun _ q => up_ne (by omega))
