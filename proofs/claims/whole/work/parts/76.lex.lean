/-! ===== tokens: what a text's bytes tb say (L of them); the class's lexer ===== -/
def clsN (c : Nat) : Nat := if 97 ≤ c ∧ c ≤ 122 then 1 else if 48 ≤ c ∧ c ≤ 57 then 2 else 0
theorem cls1 {c : Nat} : clsN c = 1 ↔ 97 ≤ c ∧ c ≤ 122 := by
  unfold clsN
  split
  · rename_i h; exact ⟨fun _ => h, fun _ => rfl⟩
  · rename_i h
    split
    · exact ⟨fun q => by omega, fun q => absurd q h⟩
    · exact ⟨fun q => by omega, fun q => absurd q h⟩
theorem cls2 {c : Nat} : clsN c = 2 ↔ 48 ≤ c ∧ c ≤ 57 := by
  unfold clsN
  split
  · rename_i h; exact ⟨fun q => by omega, fun q => by omega⟩
  · split
    · rename_i h; exact ⟨fun _ => h, fun _ => rfl⟩
    · rename_i h; exact ⟨fun q => by omega, fun q => absurd q h⟩
theorem cls_3 (c : Nat) : clsN c = 0 ∨ clsN c = 1 ∨ clsN c = 2 := by
  unfold clsN
  split
  · exact Or.inr (Or.inl rfl)
  · split
    · exact Or.inr (Or.inr rfl)
    · exact Or.inl rfl
def runN (f : Nat → Bool) : Nat → Nat → Nat
  | 0, e => e
  | n + 1, e => if f e = true then runN f n (e + 1) else e
theorem runN_t {f : Nat → Bool} {n e : Nat} (h : f e = true) : runN f (n + 1) e = runN f n (e + 1) := if_pos h
theorem runN_f {f : Nat → Bool} {n e : Nat} (h : f e = false) : runN f (n + 1) e = e := by
  show (if f e = true then _ else e) = e
  rw [if_neg (by rw [h]; decide)]
theorem runN_le {f : Nat → Bool} : ∀ (n e : Nat), e ≤ runN f n e ∧ runN f n e ≤ e + n
  | 0, e => ⟨Nat.le_refl _, Nat.le_refl _⟩
  | n + 1, e => by
    cases h : f e with
    | true =>
      rw [runN_t h]
      have := runN_le (f := f) n (e + 1)
      omega
    | false =>
      rw [runN_f h]
      omega
theorem runN_in {f : Nat → Bool} : ∀ (n e x : Nat), e ≤ x → x < runN f n e → f x = true
  | 0, e, x, h1, h2 => by
    have : runN f 0 e = e := rfl
    omega
  | n + 1, e, x, h1, h2 => by
    cases h : f e with
    | true =>
      rw [runN_t h] at h2
      by_cases c : x = e
      · rw [c]; exact h
      · exact runN_in n (e + 1) x (by omega) h2
    | false =>
      rw [runN_f h] at h2
      omega
theorem runN_end {f : Nat → Bool} : ∀ (n e : Nat), runN f n e < e + n → f (runN f n e) = false
  | 0, e, h => by
    have : runN f 0 e = e := rfl
    omega
  | n + 1, e, h => by
    cases c : f e with
    | true =>
      rw [runN_t c] at h ⊢
      exact runN_end n (e + 1) (by omega)
    | false =>
      rw [runN_f c] at h ⊢
      exact c
def blN (tb : Nat → Nat) (e : Nat) : Bool := decide (tb e = 32)
def smN (tb : Nat → Nat) (c : Nat) (e : Nat) : Bool := decide (clsN c ≠ 0 ∧ clsN (tb e) = clsN c)
/-- the next sign that is no blank; the end of the token that begins at p -/
def skN (tb : Nat → Nat) (L p : Nat) : Nat := runN (blN tb) (L - p) p
def teN (tb : Nat → Nat) (L p : Nat) : Nat := runN (smN tb (tb p)) (L - (p + 1)) (p + 1)
theorem skN_le {tb : Nat → Nat} {L p : Nat} (h : p ≤ L) : p ≤ skN tb L p ∧ skN tb L p ≤ L := by
  have := runN_le (f := blN tb) (L - p) p
  unfold skN
  omega
theorem teN_le {tb : Nat → Nat} {L p : Nat} (h : p < L) : p + 1 ≤ teN tb L p ∧ teN tb L p ≤ L := by
  have := runN_le (f := smN tb (tb p)) (L - (p + 1)) (p + 1)
  unfold teN
  omega
theorem skN_b {tb : Nat → Nat} {L p : Nat} (h : p < L) (hb : tb p = 32) : skN tb L p = skN tb L (p + 1) := by
  unfold skN
  rw [show L - p = (L - (p + 1)) + 1 by omega]
  exact runN_t (decide_eq_true hb)
theorem skN_n {tb : Nat → Nat} {L p : Nat} (h : p < L) (hb : tb p ≠ 32) : skN tb L p = p := by
  unfold skN
  rw [show L - p = (L - (p + 1)) + 1 by omega]
  exact runN_f (decide_eq_false hb)
theorem skN_L {tb : Nat → Nat} {L : Nat} : skN tb L L = L := by
  unfold skN
  rw [Nat.sub_self]
  rfl
theorem skN_nb {tb : Nat → Nat} {L p : Nat} (h : p ≤ L) (h2 : skN tb L p < L) : tb (skN tb L p) ≠ 32 := by
  have := runN_end (f := blN tb) (L - p) p (by unfold skN at h2; omega)
  exact of_decide_eq_false this
/-- where token k begins (L: no more) -/
def psN (tb : Nat → Nat) (L : Nat) : Nat → Nat
  | 0 => skN tb L 0
  | k + 1 => if psN tb L k < L then skN tb L (teN tb L (psN tb L k)) else L
theorem psN_s {tb : Nat → Nat} {L k : Nat} (h : psN tb L k < L) : psN tb L (k + 1) = skN tb L (teN tb L (psN tb L k)) := if_pos h
theorem psN_le {tb : Nat → Nat} {L : Nat} : ∀ k, psN tb L k ≤ L
  | 0 => (skN_le (Nat.zero_le _)).2
  | k + 1 => by
    by_cases h : psN tb L k < L
    · rw [psN_s h]
      exact (skN_le (teN_le h).2).2
    · show (if psN tb L k < L then _ else L) ≤ L
      rw [if_neg h]
      exact Nat.le_refl _
theorem psN_nb {tb : Nat → Nat} {L : Nat} : ∀ k, psN tb L k < L → tb (psN tb L k) ≠ 32
  | 0, h => skN_nb (Nat.zero_le _) h
  | k + 1, h => by
    by_cases c : psN tb L k < L
    · rw [psN_s c] at h ⊢
      exact skN_nb (teN_le c).2 h
    · have : psN tb L (k + 1) = L := if_neg c
      omega
def wcT : List Nat := [116, 104, 101, 105, 114, 115, 103, 111, 101, 115, 32, 32, 98, 97, 114, 115, 32, 32, 105, 102, 32, 32, 32, 32, 111, 114, 32, 32, 32, 32, 97, 110, 100, 32, 32, 32, 110, 111, 116, 32, 32, 32, 114, 111, 111, 109, 32, 32, 99, 108, 111, 99, 107, 32, 104, 111, 117, 114, 32, 32, 98, 97, 100, 103, 101, 114, 102, 111, 108, 107, 32, 32, 108, 101, 103, 115, 32, 32, 112, 101, 114, 99, 104, 32, 104, 105, 103, 104, 32, 32, 109, 111, 111, 100, 32, 32, 115, 116, 114, 105, 100, 101, 116, 111, 32, 32, 32, 32, 112, 117, 116, 32, 32, 32, 111, 110, 32, 32, 32, 32, 100, 111, 111, 114, 32, 32, 98, 121, 32, 32, 32, 32, 112, 97, 115, 115, 32, 32, 116, 105, 109, 101, 115, 32, 100, 111, 110, 101, 32, 32, 108, 97, 116, 101, 115, 116, 99, 97, 117, 103, 104, 116, 97, 116, 32, 32, 32, 32]
def wlT : List (List Nat) := [[116, 104, 101, 105, 114, 115], [103, 111, 101, 115], [98, 97, 114, 115], [105, 102], [111, 114], [97, 110, 100], [110, 111, 116], [114, 111, 111, 109], [99, 108, 111, 99, 107], [104, 111, 117, 114], [98, 97, 100, 103, 101, 114], [102, 111, 108, 107], [108, 101, 103, 115], [112, 101, 114, 99, 104], [104, 105, 103, 104], [109, 111, 111, 100], [115, 116, 114, 105, 100, 101], [116, 111], [112, 117, 116], [111, 110], [100, 111, 111, 114], [98, 121], [112, 97, 115, 115], [116, 105, 109, 101, 115], [100, 111, 110, 101], [108, 97, 116, 101, 115, 116], [99, 97, 117, 103, 104, 116], [97, 116]]
def kwT : List Nat := [679650899, 244915, 67155, 294, 498, 1476, 14836, 605677, 3554411, 278194, 68295858, 212363, 398579, 16959592, 271592, 441828, 659104901, 655, 17076, 494, 146930, 89, 525939, 21279923, 146885, 404362868, 102407444, 52]
def wcN (i : Nat) : Nat := wcT.getD i 0
def wlN (w : Nat) : List Nat := wlT.getD w []
theorem wcT_all : (List.range 168).all (fun i => decide (wdO (iN i) = some (iN (wcN i)) ∧ wdC (iN i) = iN (wcN i))) = true := by decide +kernel
theorem wcN_ok {i : Nat} (h : i < 168) : wdO (iN i) = some (iN (wcN i)) ∧ wdC (iN i) = iN (wcN i) := of_decide_eq_true (List.all_eq_true.mp wcT_all i (List.mem_range.mpr h))
theorem wcT_all2 : (List.range 168).all (fun i => decide (wcN i ≤ 255)) = true := by decide +kernel
theorem wcN_le {i : Nat} (h : i < 168) : wcN i ≤ 255 := of_decide_eq_true (List.all_eq_true.mp wcT_all2 i (List.mem_range.mpr h))
theorem wlT_all : (List.range 28).all (fun w => decide ((wlN w).length ≤ 6 ∧ (∀ x ∈ wlN w, x ≠ 32 ∧ 97 ≤ x ∧ x ≤ 122)) && (List.range 6).all (fun i => decide ((wlN w).getD i 32 = wcN (6 * w + i))) && (List.range 28).all (fun v => decide (wlN v = wlN w → v = w))) = true := by decide +kernel
theorem wlN_ok {w : Nat} (h : w < 28) : ((wlN w).length ≤ 6 ∧ (∀ x ∈ wlN w, x ≠ 32 ∧ 97 ≤ x ∧ x ≤ 122)) ∧ (∀ i, i < 6 → (wlN w).getD i 32 = wcN (6 * w + i)) ∧ ∀ v, v < 28 → wlN v = wlN w → v = w := by
  have a := List.all_eq_true.mp wlT_all w (List.mem_range.mpr h)
  rw [Bool.and_eq_true, Bool.and_eq_true] at a
  exact ⟨of_decide_eq_true a.1.1, fun i hi => of_decide_eq_true (List.all_eq_true.mp a.1.2 i (List.mem_range.mpr hi)), fun v hv => of_decide_eq_true (List.all_eq_true.mp a.2 v (List.mem_range.mpr hv))⟩
theorem pad_eq {a b : List Nat} (ha : ∀ x ∈ a, x ≠ 32) (hb : ∀ x ∈ b, x ≠ 32) (la : a.length ≤ 6) (lb : b.length ≤ 6) (h : ∀ i, i < 6 → a.getD i 32 = b.getD i 32) : a = b := by
  have one : ∀ {a b : List Nat}, (∀ x ∈ b, x ≠ 32) → b.length ≤ 6 → (∀ i, i < 6 → a.getD i 32 = b.getD i 32) → ¬ a.length < b.length := fun {a b} hb lb h q => by
    have := h a.length (by omega)
    rw [List.getD_eq_getElem?_getD, List.getD_eq_getElem?_getD, List.getElem?_eq_none (Nat.le_refl _), List.getElem?_eq_getElem q] at this
    exact hb _ (List.getElem_mem q) this.symm
  have e : a.length = b.length := by
    have h1 := one hb lb h
    have h2 := one ha la (fun i hi => (h i hi).symm)
    omega
  refine List.ext_getElem e (fun i h1 h2 => ?_)
  have := h i (by omega)
  rwa [List.getD_eq_getElem?_getD, List.getD_eq_getElem?_getD, List.getElem?_eq_getElem h1, List.getElem?_eq_getElem h2] at this
/-- the letters of a word -/
def ltN (tb : Nat → Nat) (p n : Nat) : List Nat := (List.range n).map (fun i => tb (p + i))
theorem ltN_len {tb : Nat → Nat} {p n : Nat} : (ltN tb p n).length = n := by simp [ltN]
theorem ltN_getD {tb : Nat → Nat} {p n i : Nat} : (ltN tb p n).getD i 32 = if i < n then tb (p + i) else 32 := by
  rw [List.getD_eq_getElem?_getD]
  by_cases h : i < n
  · rw [if_pos h]
    simp [ltN, h]
  · rw [if_neg h, List.getElem?_eq_none (by rw [ltN_len]; omega)]
    rfl
def firstW (l : List Nat) : Nat → Nat → Nat
  | 0, _ => 257
  | n + 1, w => if l = wlN w then 300 + w else firstW l n (w + 1)
def kindW (l : List Nat) : Nat := if l.length ≤ 6 then firstW l 28 0 else 257
theorem firstW_rng {l : List Nat} : ∀ (n w : Nat), firstW l n w = 257 ∨ (300 + w ≤ firstW l n w ∧ firstW l n w < 300 + w + n)
  | 0, _ => Or.inl rfl
  | n + 1, w => by
    show (if l = wlN w then 300 + w else firstW l n (w + 1)) = 257 ∨ _ ≤ (if l = wlN w then 300 + w else firstW l n (w + 1)) ∧ (if l = wlN w then 300 + w else firstW l n (w + 1)) < _
    by_cases c : l = wlN w
    · rw [if_pos c]; omega
    · rw [if_neg c]
      have := firstW_rng (l := l) n (w + 1)
      omega
theorem firstW_iff {l : List Nat} : ∀ (n w0 : Nat), w0 + n = 28 → ∀ w, w0 ≤ w → w < 28 → (firstW l n w0 = 300 + w ↔ l = wlN w)
  | 0, w0, h, w, h1, h2 => by omega
  | n + 1, w0, h, w, h1, h2 => by
    show (if l = wlN w0 then 300 + w0 else firstW l n (w0 + 1)) = 300 + w ↔ _
    by_cases c : l = wlN w0
    · rw [if_pos c]
      constructor
      · intro e
        rw [show w = w0 by omega]
        exact c
      · intro e
        have := (wlN_ok h2).2.2 w0 (by omega) (by rw [← c, e])
        omega
    · rw [if_neg c]
      by_cases e : w = w0
      · subst e
        have := firstW_rng (l := l) n (w + 1)
        exact ⟨fun q => by omega, fun q => absurd q c⟩
      · exact firstW_iff n (w0 + 1) (by omega) w (by omega) h2
theorem kindW_iff {l : List Nat} {w : Nat} (h : w < 28) : kindW l = 300 + w ↔ l = wlN w := by
  unfold kindW
  by_cases c : l.length ≤ 6
  · rw [if_pos c]
    exact firstW_iff 28 0 (by omega) w (by omega) h
  · rw [if_neg c]
    refine ⟨fun q => by omega, fun q => ?_⟩
    rw [q] at c
    exact absurd (wlN_ok h).1.1 c
theorem kindW_rng {l : List Nat} : kindW l = 257 ∨ (300 ≤ kindW l ∧ kindW l < 328) := by
  unfold kindW
  split
  · exact firstW_rng 28 0
  · exact Or.inl rfl
def numN (tb : Nat → Nat) : Nat → Nat → Nat → Nat
  | 0, _, a => a
  | n + 1, e, a => numN tb n (e + 1) (if 1001 < a * 10 + tb e - 48 then 1001 else a * 10 + tb e - 48)
theorem numN_le {tb : Nat → Nat} : ∀ (n e a : Nat), a ≤ 1001 → numN tb n e a ≤ 1001
  | 0, _, a, h => h
  | n + 1, e, a, h => numN_le n (e + 1) _ (by split <;> omega)
def kindN (tb : Nat → Nat) (L p : Nat) : Nat := if clsN (tb p) = 1 then kindW (ltN tb p (teN tb L p - p)) else if clsN (tb p) = 2 then 256 else tb p
def nmbN (tb : Nat → Nat) (L p : Nat) : Nat := if clsN (tb p) = 2 then numN tb (teN tb L p - p) p 0 else 0
/-- the kind, the number of token k -/
def kdN (tb : Nat → Nat) (L k : Nat) : Nat := if psN tb L k < L then kindN tb L (psN tb L k) else 258
def nmN (tb : Nat → Nat) (L k : Nat) : Nat := nmbN tb L (psN tb L k)
section LX
variable {σ : Hp} {tb : Nat → Nat} {L : Nat}
/-- the tape's bytes as the class holds them -/
def TB8 (tb : Nat → Nat) (σ : Hp) : Prop := (∀ i, tb i ≤ 255) ∧ ∀ i, i < 400 → zi σ 99 i &&& 255 = iN (tb i)
theorem TB8.ag {S : Nat → Nat → Prop} {σ1 : Hp} (h : TB8 tb σ) (e : Ag S σ σ1) (hs : ∀ k, ¬ S 99 k) : TB8 tb σ1 := ⟨h.1, fun i hi => by rw [(e.2.2.2.2 99 i (hs i)).1]; exact h.2 i hi⟩
theorem byte8 (hS : SK σ) (h : TB8 tb σ) {i : Nat} (hi : i < 400) : s_X6_byteAt 98 (iN i) σ = some (iN (tb i), σ) := by
  have f0 : ¬ iN i < 0 := iN_nn (by omega)
  have r := q_r98_0 hS
  have l := q_ln99 hS
  have f1 : ¬ iN 400 ≤ iN i := fun q => absurd ((iN_le (by omega) (by omega)).mp q) (by omega)
  have d := q_ld99 hi hS
  simp only [s_X6_byteAt, f0, r, l, f1, d, h.2 i hi, if_false, bind_ok, Option.bind_some]
theorem letter8_t {c : Nat} (hc : clsN c = 1) : s_X4_isLetter (iN c) σ = some (1, σ) := by
  have := cls1.mp hc
  have f1 : ¬ iN c < 97 := fun q => absurd ((iN_lt (b := 97) (by omega) (by decide)).mp q) (by omega)
  have f2 : ¬ 122 < iN c := fun q => absurd ((iN_lt (a := 122) (by decide) (by omega)).mp q) (by omega)
  simp only [s_X4_isLetter, f1, f2, if_false]
theorem letter8_f {c : Nat} (h : c ≤ 255) (hc : ¬ clsN c = 1) : s_X4_isLetter (iN c) σ = some (0, σ) := by
  have : ¬ (97 ≤ c ∧ c ≤ 122) := fun q => hc (cls1.mpr q)
  by_cases f1 : iN c < 97
  · simp only [s_X4_isLetter, f1, if_true]
  · have h1 : ¬ c < 97 := fun q => f1 ((iN_lt (b := 97) (by omega) (by decide)).mpr q)
    have f2 : 122 < iN c := (iN_lt (a := 122) (by decide) (by omega)).mpr (by omega)
    simp only [s_X4_isLetter, f1, f2, if_true, if_false]
theorem digit8_t {c : Nat} (hc : clsN c = 2) : s_X4_isDigit (iN c) σ = some (1, σ) := by
  have := cls2.mp hc
  have f1 : ¬ iN c < 48 := fun q => absurd ((iN_lt (b := 48) (by omega) (by decide)).mp q) (by omega)
  have f2 : ¬ 57 < iN c := fun q => absurd ((iN_lt (a := 57) (by decide) (by omega)).mp q) (by omega)
  simp only [s_X4_isDigit, f1, f2, if_false]
theorem digit8_f {c : Nat} (h : c ≤ 255) (hc : ¬ clsN c = 2) : s_X4_isDigit (iN c) σ = some (0, σ) := by
  have : ¬ (48 ≤ c ∧ c ≤ 57) := fun q => hc (cls2.mpr q)
  by_cases f1 : iN c < 48
  · simp only [s_X4_isDigit, f1, if_true]
  · have h1 : ¬ c < 48 := fun q => f1 ((iN_lt (b := 48) (by omega) (by decide)).mpr q)
    have f2 : 57 < iN c := (iN_lt (a := 57) (by decide) (by omega)).mpr (by omega)
    simp only [s_X4_isDigit, f1, f2, if_true, if_false]
theorem eot_l (hS : SK σ) (h : TB8 tb σ) (hL : L ≤ 400) {c : Nat} (hc : c ≤ 255) : ∀ (n e : Nat), e + n = L → s_X4_endOfToken_l11 (some 98, iN L, iN c, iN e) σ = some (iN (runN (smN tb c) n e), σ)
  | 0, e, he => by
    have f1 : iN L ≤ iN e := (iN_le (by omega) (by omega)).mpr (by omega)
    exact loopF_out (body := fun v => s_X4_endOfToken_b11 (v.1) (v.2.1) (v.2.2.1) (v.2.2.2)) (v := (some 98, iN L, iN c, iN e)) (by simp only [s_X4_endOfToken_b11, f1, if_true]; rfl)
  | n + 1, e, he => by
    have f1 : ¬ iN L ≤ iN e := fun q => absurd ((iN_le (by omega) (by omega)).mp q) (by omega)
    have k := q_ck98 hS
    have b := byte8 hS h (i := e) (by omega)
    have i1 : iN e + 1 = iN (e + 1) := iN_add e 1
    have hb := h.1 e
    by_cases c1 : clsN c = 1
    · have a1 := letter8_t (σ := σ) c1
      by_cases c2 : clsN (tb e) = 1
      · have a2 := letter8_t (σ := σ) c2
        rw [runN_t (show smN tb c e = true from decide_eq_true ⟨by omega, by omega⟩)]
        refine Eq.trans (loopF_in (body := fun v => s_X4_endOfToken_b11 (v.1) (v.2.1) (v.2.2.1) (v.2.2.2)) (v := (some 98, iN L, iN c, iN e)) (v' := (some 98, iN L, iN c, iN (e + 1))) (σ' := σ) ?_) (eot_l hS h hL hc n (e + 1) (by omega))
        simp only [s_X4_endOfToken_b11, s_X4_endOfToken_j55, f1, a1, k, b, a2, i1, z10', if_false, bind_ok, Option.bind_some, cb_some]
      · have a2 := letter8_f (σ := σ) hb c2
        have a3 := digit8_f (σ := σ) hc (by omega)
        rw [runN_f (show smN tb c e = false from decide_eq_false (fun q => c2 (by omega)))]
        refine loopF_out (body := fun v => s_X4_endOfToken_b11 (v.1) (v.2.1) (v.2.2.1) (v.2.2.2)) (v := (some 98, iN L, iN c, iN e)) ?_
        simp only [s_X4_endOfToken_b11, s_X4_endOfToken_j36, f1, a1, k, b, a2, a3, i1, z10', if_true, if_false, bind_ok, Option.bind_some, cb_some]
    · have a1 := letter8_f (σ := σ) hc c1
      by_cases c2 : clsN c = 2
      · have a2 := digit8_t (σ := σ) c2
        by_cases c3 : clsN (tb e) = 2
        · have a3 := digit8_t (σ := σ) c3
          rw [runN_t (show smN tb c e = true from decide_eq_true ⟨by omega, by omega⟩)]
          refine Eq.trans (loopF_in (body := fun v => s_X4_endOfToken_b11 (v.1) (v.2.1) (v.2.2.1) (v.2.2.2)) (v := (some 98, iN L, iN c, iN e)) (v' := (some 98, iN L, iN c, iN (e + 1))) (σ' := σ) ?_) (eot_l hS h hL hc n (e + 1) (by omega))
          simp only [s_X4_endOfToken_b11, s_X4_endOfToken_j36, s_X4_endOfToken_j55, f1, a1, k, b, a2, a3, i1, z10', if_true, if_false, bind_ok, Option.bind_some, cb_some]
        · have a3 := digit8_f (σ := σ) hb c3
          rw [runN_f (show smN tb c e = false from decide_eq_false (fun q => c3 (by omega)))]
          refine loopF_out (body := fun v => s_X4_endOfToken_b11 (v.1) (v.2.1) (v.2.2.1) (v.2.2.2)) (v := (some 98, iN L, iN c, iN e)) ?_
          simp only [s_X4_endOfToken_b11, s_X4_endOfToken_j36, f1, a1, k, b, a2, a3, i1, z10', if_true, if_false, bind_ok, Option.bind_some, cb_some]
      · have a2 := digit8_f (σ := σ) hc c2
        rw [runN_f (show smN tb c e = false from decide_eq_false (fun q => by have := cls_3 c; omega))]
        refine loopF_out (body := fun v => s_X4_endOfToken_b11 (v.1) (v.2.1) (v.2.2.1) (v.2.2.2)) (v := (some 98, iN L, iN c, iN e)) ?_
        simp only [s_X4_endOfToken_b11, s_X4_endOfToken_j36, f1, a1, k, b, a2, i1, z10', if_true, if_false, bind_ok, Option.bind_some, cb_some]
theorem eot8 (hS : SK σ) (h : TB8 tb σ) (hL : L ≤ 400) {p : Nat} (hp : p < L) : s_X4_endOfToken (some 98) (iN p) (iN L) σ = some (iN (teN tb L p), σ) := by
  have k := q_ck98 hS
  have b := byte8 hS h (i := p) (by omega)
  have i1 : iN p + 1 = iN (p + 1) := iN_add p 1
  have l := eot_l hS h hL (h.1 p) (L - (p + 1)) (p + 1) (by omega)
  simp only [s_X4_endOfToken, k, b, i1, l, bind_ok, Option.bind_some, cb_some]
  rfl
theorem num_l (hS : SK σ) (h : TB8 tb σ) {E : Nat} (hE : E ≤ 400) : ∀ (n e a : Nat), e + n = E → (∀ x, e ≤ x → x < E → clsN (tb x) = 2) → a ≤ 1001 → s_X4_numberAt_l5 (some 98, iN E, iN a, iN e) σ = some (iN (numN tb n e a), σ)
  | 0, e, a, he, _, _ => by
    have f1 : iN E ≤ iN e := (iN_le (by omega) (by omega)).mpr (by omega)
    exact loopF_out (body := fun v => s_X4_numberAt_b5 (v.1) (v.2.1) (v.2.2.1) (v.2.2.2)) (v := (some 98, iN E, iN a, iN e)) (by simp only [s_X4_numberAt_b5, f1, if_true]; rfl)
  | n + 1, e, a, he, hd, ha => by
    have f1 : ¬ iN E ≤ iN e := fun q => absurd ((iN_le (by omega) (by omega)).mp q) (by omega)
    have k := q_ck98 hS
    have b := byte8 hS h (i := e) (by omega)
    have i1 : iN e + 1 = iN (e + 1) := iN_add e 1
    have hb := h.1 e
    have d := cls2.mp (hd e (Nat.le_refl _) (by omega))
    have e1 : iN a * 10 + iN (tb e) - 48 = iN (a * 10 + tb e - 48) := by
      rw [show (10 : Int32) = iN 10 from rfl, iN_mul, iN_add, show (48 : Int32) = iN 48 from rfl, iN_sub (by omega)]
    have e2 : (if 1001 < iN a * 10 + iN (tb e) - 48 then 1001 else iN a * 10 + iN (tb e) - 48) = iN (if 1001 < a * 10 + tb e - 48 then 1001 else a * 10 + tb e - 48) := by
      rw [e1]
      by_cases c : 1001 < a * 10 + tb e - 48
      · have f : (1001 : Int32) < iN (a * 10 + tb e - 48) := (iN_lt (a := 1001) (by decide) (by omega)).mpr c
        rw [if_pos c, if_pos f]
        rfl
      · have f : ¬ (1001 : Int32) < iN (a * 10 + tb e - 48) := fun q => c ((iN_lt (a := 1001) (by decide) (by omega)).mp q)
        rw [if_neg c, if_neg f]
    refine Eq.trans (loopF_in (body := fun v => s_X4_numberAt_b5 (v.1) (v.2.1) (v.2.2.1) (v.2.2.2)) (v := (some 98, iN E, iN a, iN e)) (v' := (some 98, iN E, iN (if 1001 < a * 10 + tb e - 48 then 1001 else a * 10 + tb e - 48), iN (e + 1))) (σ' := σ) ?_) (num_l hS h hE n (e + 1) _ (by omega) (fun x h1 h2 => hd x (by omega) h2) (by split <;> omega))
    simp only [s_X4_numberAt_b5, f1, k, b, e2, i1, if_false, bind_ok, Option.bind_some, cb_some]
theorem te_cls {p x : Nat} (hp : p < L) (hc : clsN (tb p) ≠ 0) (h1 : p ≤ x) (h2 : x < teN tb L p) : clsN (tb x) = clsN (tb p) := by
  by_cases e : x = p
  · rw [e]
  · have := runN_in (f := smN tb (tb p)) (L - (p + 1)) (p + 1) x (by omega) h2
    exact (of_decide_eq_true this).2
theorem num8 (hS : SK σ) (h : TB8 tb σ) (hL : L ≤ 400) {p : Nat} (hp : p < L) (hc : clsN (tb p) = 2) : s_X4_numberAt (some 98) (iN p) (iN (teN tb L p)) σ = some (iN (nmbN tb L p), σ) := by
  have t := teN_le (tb := tb) hp
  have l := num_l hS h (E := teN tb L p) (by omega) (teN tb L p - p) p 0 (by omega) (fun x h1 h2 => (te_cls hp (by omega) h1 h2).trans hc) (by omega)
  have l : s_X4_numberAt_l5 (some 98, iN (teN tb L p), 0, iN p) σ = _ := l
  simp only [s_X4_numberAt, l, cb_some]
  unfold nmbN
  rw [if_pos hc]
def eqW (tb : Nat → Nat) (p E w : Nat) : Nat → Nat → Bool
  | 0, _ => true
  | n + 1, i => if (if p + i < E then tb (p + i) else 32) = wcN (6 * w + i) then eqW tb p E w n (i + 1) else false
theorem eqW_iff {p E w : Nat} : ∀ (n i : Nat), eqW tb p E w n i = true ↔ ∀ j, i ≤ j → j < i + n → (if p + j < E then tb (p + j) else 32) = wcN (6 * w + j)
  | 0, i => ⟨fun _ j h1 h2 => by omega, fun _ => rfl⟩
  | n + 1, i => by
    show (if (if p + i < E then tb (p + i) else 32) = wcN (6 * w + i) then eqW tb p E w n (i + 1) else false) = true ↔ _
    by_cases c : (if p + i < E then tb (p + i) else 32) = wcN (6 * w + i)
    · rw [if_pos c, eqW_iff n (i + 1)]
      constructor
      · intro q j h1 h2
        by_cases e : j = i
        · rw [e]; exact c
        · exact q j (by omega) (by omega)
      · intro q j h1 h2
        exact q j (by omega) (by omega)
    · rw [if_neg c]
      exact ⟨fun q => absurd q (by decide), fun q => absurd (q i (Nat.le_refl _) (by omega)) c⟩
theorem isw_l (hS : SK σ) (h : TB8 tb σ) {p E w : Nat} (hp : p ≤ E) (hE : E ≤ 400) (hw : w < 28) : ∀ (n i : Nat), i + n = 6 → s_X4_isWordAt_l3 (some 98, iN p, iN E, iN (6 * w), iN i) σ = some (bI (eqW tb p E w n i), σ)
  | 0, i, hi => by
    have f1 : (6 : Int32) ≤ iN i := (iN_le (a := 6) (by decide) (by omega)).mpr (by omega)
    exact loopF_out (body := fun v => s_X4_isWordAt_b3 (v.1) (v.2.1) (v.2.2.1) (v.2.2.2.1) (v.2.2.2.2)) (v := (some 98, iN p, iN E, iN (6 * w), iN i)) (by simp only [s_X4_isWordAt_b3, f1, if_true]; rfl)
  | n + 1, i, hi => by
    have f1 : ¬ (6 : Int32) ≤ iN i := fun q => absurd ((iN_le (a := 6) (by decide) (by omega)).mp q) (by omega)
    have f2 : ¬ 168 ≤ iN (6 * w) + iN i := by
      rw [iN_add]
      exact fun q => absurd ((iN_le (a := 168) (by decide) (by omega)).mp q) (by omega)
    have k := q_ck98 hS
    have i1 : iN i + 1 = iN (i + 1) := iN_add i 1
    have wa : iN (6 * w) + iN i = iN (6 * w + i) := iN_add _ _
    have pa : iN p + iN i = iN (p + i) := iN_add _ _
    rw [wa] at f2
    obtain ⟨w1, w2⟩ := wcN_ok (show 6 * w + i < 168 by omega)
    have wl := wcN_le (show 6 * w + i < 168 by omega)
    have step : ∀ c : Nat, c ≤ 255 → c = (if p + i < E then tb (p + i) else 32) → s_X4_isWordAt_b3 (some 98) (iN p) (iN E) (iN (6 * w)) (iN i) σ = s_X4_isWordAt_j43 (some 98) (iN p) (iN E) (iN (6 * w)) (iN i) (iN c) σ → s_X4_isWordAt_l3 (some 98, iN p, iN E, iN (6 * w), iN i) σ = some (bI (eqW tb p E w (n + 1) i), σ) := by
      intro c hc he hb
      by_cases q : c = wcN (6 * w + i)
      · have e1 : eqW tb p E w (n + 1) i = eqW tb p E w n (i + 1) := if_pos (he ▸ q)
        rw [e1]
        refine Eq.trans (loopF_in (body := fun v => s_X4_isWordAt_b3 (v.1) (v.2.1) (v.2.2.1) (v.2.2.2.1) (v.2.2.2.2)) (v := (some 98, iN p, iN E, iN (6 * w), iN i)) (v' := (some 98, iN p, iN E, iN (6 * w), iN (i + 1))) (σ' := σ) ?_) (isw_l hS h hp hE hw n (i + 1) (by omega))
        refine hb.trans ?_
        have q2 : iN c = iN (wcN (6 * w + i)) := by rw [q]
        simp only [s_X4_isWordAt_j43, wa, w1, w2, q2, i1, if_true, Option.bind_some]
      · have e1 : eqW tb p E w (n + 1) i = false := if_neg (he ▸ q)
        rw [e1]
        refine loopF_out (body := fun v => s_X4_isWordAt_b3 (v.1) (v.2.1) (v.2.2.1) (v.2.2.2.1) (v.2.2.2.2)) (v := (some 98, iN p, iN E, iN (6 * w), iN i)) ?_
        refine hb.trans ?_
        have q2 : ¬ iN c = iN (wcN (6 * w + i)) := fun z => q ((iN_inj (by omega) (by omega)).mp z)
        simp only [s_X4_isWordAt_j43, wa, w1, w2, q2, if_false, Option.bind_some]
        rfl
    by_cases c : p + i < E
    · have f3 : ¬ iN E ≤ iN p + iN i := by
        rw [pa]
        exact fun q => absurd ((iN_le (by omega) (by omega)).mp q) (by omega)
      have b := byte8 hS h (i := p + i) (by omega)
      refine step (tb (p + i)) (h.1 _) (if_pos c).symm ?_
      rw [pa] at f3
      simp only [s_X4_isWordAt_b3, f1, wa, f2, pa, f3, k, b, if_false, bind_ok, Option.bind_some, cb_some]
    · have f3 : iN E ≤ iN (p + i) := (iN_le (by omega) (by omega)).mpr (by omega)
      refine step 32 (by omega) (if_neg c).symm ?_
      simp only [s_X4_isWordAt_b3, f1, wa, f2, pa, f3, if_true, if_false, bind_ok, Option.bind_some, cb_some]
      rfl
theorem isw8 (hS : SK σ) (h : TB8 tb σ) {p E w : Nat} (hp : p ≤ E) (hE : E ≤ 400) (hw : w < 28) (hl : ∀ x, p ≤ x → x < E → clsN (tb x) = 1) (h6 : E - p ≤ 6) : s_X4_isWordAt (some 98) (iN p) (iN E) (iN (6 * w)) σ = some (bI (decide (ltN tb p (E - p) = wlN w)), σ) := by
  have l := isw_l hS h hp hE hw 6 0 (by omega)
  have l : s_X4_isWordAt_l3 (some 98, iN p, iN E, iN (6 * w), 0) σ = _ := l
  have e : eqW tb p E w 6 0 = decide (ltN tb p (E - p) = wlN w) := by
    apply Bool.eq_iff_iff.mpr
    rw [eqW_iff, decide_eq_true_iff]
    obtain ⟨⟨a1, a2⟩, a3, -⟩ := wlN_ok hw
    constructor
    · intro q
      refine pad_eq (fun x hx => ?_) (fun x hx => (a2 x hx).1) (by rw [ltN_len]; exact h6) a1 (fun i hi => ?_)
      · obtain ⟨i, hi, rfl⟩ := List.mem_map.mp hx
        have := cls1.mp (hl (p + i) (by omega) (by have := List.mem_range.mp hi; omega))
        omega
      · rw [ltN_getD, a3 i hi, ← q i (by omega) (by omega)]
        by_cases c : i < E - p
        · rw [if_pos c, if_pos (by omega)]
        · rw [if_neg c, if_neg (by omega)]
    · intro q j h1 h2
      rw [← a3 j (by omega), ← q, ltN_getD]
      by_cases c : j < E - p
      · rw [if_pos c, if_pos (by omega)]
      · rw [if_neg c, if_neg (by omega)]
  simp only [s_X4_isWordAt, l, cb_some, e]
theorem word_l (hS : SK σ) (h : TB8 tb σ) {p E : Nat} (hp : p ≤ E) (hE : E ≤ 400) (hl : ∀ x, p ≤ x → x < E → clsN (tb x) = 1) (h6 : E - p ≤ 6) : ∀ (n w : Nat), w + n = 28 → s_X4_wordAt_l14 (some 98, iN p, iN E, iN w) σ = some (iN (firstW (ltN tb p (E - p)) n w), σ)
  | 0, w, hw => by
    have f1 : (168 : Int32) ≤ iN w * 6 := by
      rw [show (6 : Int32) = iN 6 from rfl, iN_mul]
      exact (iN_le (a := 168) (by decide) (by omega)).mpr (by omega)
    exact loopF_out (body := fun v => s_X4_wordAt_b14 (v.1) (v.2.1) (v.2.2.1) (v.2.2.2)) (v := (some 98, iN p, iN E, iN w)) (by simp only [s_X4_wordAt_b14, f1, if_true]; rfl)
  | n + 1, w, hw => by
    have m6 : iN w * 6 = iN (6 * w) := by
      rw [show (6 : Int32) = iN 6 from rfl, iN_mul, Nat.mul_comm]
    have f1 : ¬ (168 : Int32) ≤ iN (6 * w) := fun q => absurd ((iN_le (a := 168) (by decide) (by omega)).mp q) (by omega)
    have i1 : iN w + 1 = iN (w + 1) := iN_add w 1
    have a3 : (300 : Int32) + iN w = iN (300 + w) := iN_add 300 w
    have s := isw8 hS h hp hE (show w < 28 by omega) hl h6
    by_cases c : ltN tb p (E - p) = wlN w
    · rw [decide_eq_true c] at s
      have s : s_X4_isWordAt (some 98) (iN p) (iN E) (iN (6 * w)) σ = some (1, σ) := s
      have e1 : firstW (ltN tb p (E - p)) (n + 1) w = 300 + w := if_pos c
      rw [e1]
      refine loopF_out (body := fun v => s_X4_wordAt_b14 (v.1) (v.2.1) (v.2.2.1) (v.2.2.2)) (v := (some 98, iN p, iN E, iN w)) ?_
      simp only [s_X4_wordAt_b14, m6, f1, s, a3, z10', if_false, cb_some]
    · rw [decide_eq_false c] at s
      have s : s_X4_isWordAt (some 98) (iN p) (iN E) (iN (6 * w)) σ = some (0, σ) := s
      have e1 : firstW (ltN tb p (E - p)) (n + 1) w = firstW (ltN tb p (E - p)) n (w + 1) := if_neg c
      rw [e1]
      refine Eq.trans (loopF_in (body := fun v => s_X4_wordAt_b14 (v.1) (v.2.1) (v.2.2.1) (v.2.2.2)) (v := (some 98, iN p, iN E, iN w)) (v' := (some 98, iN p, iN E, iN (w + 1))) (σ' := σ) ?_) (word_l hS h hp hE hl h6 n (w + 1) (by omega))
      simp only [s_X4_wordAt_b14, m6, f1, s, i1, if_true, if_false, cb_some]
theorem word8 (hS : SK σ) (h : TB8 tb σ) (hL : L ≤ 400) {p : Nat} (hp : p < L) (hc : clsN (tb p) = 1) : s_X4_wordAt (some 98) (iN p) (iN (teN tb L p)) σ = some (iN (kindN tb L p), σ) := by
  have t := teN_le (tb := tb) hp
  have e1 : kindN tb L p = kindW (ltN tb p (teN tb L p - p)) := if_pos hc
  have d : iN (teN tb L p) - iN p = iN (teN tb L p - p) := iN_sub (by omega)
  rw [e1]
  unfold kindW
  rw [ltN_len]
  by_cases c : teN tb L p - p ≤ 6
  · have l := word_l hS h (show p ≤ teN tb L p by omega) (by omega) (fun x h1 h2 => (te_cls hp (by omega) h1 h2).trans hc) c 28 0 (by omega)
    have l : s_X4_wordAt_l14 (some 98, iN p, iN (teN tb L p), 0) σ = _ := l
    have f : iN (teN tb L p - p) ≤ 6 := (iN_le (b := 6) (by omega) (by decide)).mpr c
    rw [if_pos c]
    simp only [s_X4_wordAt, d, f, l, if_true, cb_some]
  · have f : ¬ iN (teN tb L p - p) ≤ 6 := fun q => c ((iN_le (b := 6) (by omega) (by decide)).mp q)
    rw [if_neg c]
    simp only [s_X4_wordAt, d, f, if_false, cb_some]
    rfl
end LX
