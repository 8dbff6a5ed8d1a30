/-! ===== law, when there is room ===== -/
section V43
variable {σ : Hp} {nP nF nB nT nS nL n nt L : Nat} {B : Book} {tb : Nat → Nat}
def Sl0 (a k : Nat) : Prop := Slt a k ∨ (a = 125 ∧ k = 0)
theorem Sl0.lf {a k : Nat} (h : Sl0 a k) : LF a k := by
  rcases h with h | h
  · exact h.lf
  · unfold LF
    omega
theorem Sl0.is {a k : Nat} (h : Sl0 a k) : (a = 125 ∧ k ≠ 13 ∧ k ≠ 1 ∧ k ≠ 52) ∨ (135 ≤ a ∧ a ≤ 139) := by
  unfold Sl0 Slt Stx Slw Sm9 at h
  omega
theorem law9_go (hS : SK σ) (hB : TB9 tb L σ) (hN : TN tb L n) (hC : CW σ) (h5 : zi σ 127 5 = iN nL) (hn : nL < 6) : ∃ σ1, s_X9_law 125 σ = s_X9_law_j64 125 σ1 ∧ Ag Sl0 σ σ1 ∧ match textP (kdN tb L) (nmN tb L) true n 12 0 0 with
    | (k1, none) => BadX tb L k1 σ1 ∨ ∃ q1 c1, RX tb L n true k1 q1 c1 σ1 ∧ kdN tb L k1 ≠ 258
    | (k1, some l) => ∃ q1 c1, RX tb L n true k1 q1 c1 σ1 ∧ kdN tb L k1 = 258 ∧ zi σ1 125 21 = iN l.length ∧ l.length ≤ 12 ∧ RRows RRowL (zi σ1 135) (zi σ1 136) (zi σ1 137) 0 0 c1 l := by
  have w0 := q_w125 (k := 0) (v := 0) hS
  have S1 : SK (zsi σ 125 0 0) := hS
  have e1 : Ag (fun a k => a = 125 ∧ k = 0) σ (zsi σ 125 0 0) := Ag.zsi ⟨rfl, rfl⟩
  have B1 := hB.ag e1 (fun k q => by omega) (fun q => by omega)
  have C1 := hC.gg e1 (fun a j q => by unfold fCW; simp; omega)
  have r3 := q_r125_3 S1
  have l5 : ldI 11 (zsi σ 125 0 0) 127 5 = some (iN nL) := (q_ld127 (n := 5) (by omega) S1).trans (by rw [zi_ne (by decide), h5])
  have f6 : ¬ iN nL = 6 := fun z => by have := (iN_inj (b := 6) (by omega) (by decide)).mp z; omega
  generalize zsi σ 125 0 0 = u1 at w0 S1 e1 B1 C1 r3 l5
  obtain ⟨u2, x2, e2, y2⟩ := law9_read S1 B1 hN C1
  refine ⟨u2, ?_, (e1.mono (fun a k q => Or.inr q)).trans (e2.mono (fun a k q => Or.inl q)), y2⟩
  unfold s_X9_law
  rw [w0, bos, r3, bos, bos, l5, bos, if_neg f6]
  exact x2
theorem TextOK.gg {t u : Hp} {a : Nat} {l : List Cl} (h : TextOK a l t) (E : GG LSw t u) : TextOK a l u := by
  obtain ⟨x, r, sc1, t1, t2, t3, t4, t5, t6, t7, t8, t9, t10, t11, t12, t13, t14, t15, t16, t17⟩ := h
  have ek := fun b (hb : b < zn t) => E.2.1 b hb
  have er := fun b (hb : b < zn t) (h : 156 ≤ b) => E.2.2.1 b hb (by omega)
  have ei : ∀ b, b < zn t → 156 ≤ b → zi u b = zi t b := fun b hb h => funext fun k => (E.2.2.2 b k hb (fun q => by have := q.lt; omega)).1
  refine ⟨x, r, sc1, t1, Nat.lt_of_lt_of_le t2 E.1, by rw [(ek _ t2).1]; exact t3, by rw [er _ t2 t1]; exact t4, by rw [er _ t2 t1]; exact t5, t6, Nat.lt_of_lt_of_le t7 E.1, t8, Nat.lt_of_lt_of_le t9 E.1, by rw [(ek _ t7).1]; exact t10, by rw [(ek _ t9).1]; exact t11, t12, by rw [(ek _ t7).2]; exact t13, by rw [(ek _ t9).2]; exact t14, by rw [ei _ t2 t1]; exact t15, t16, ?_⟩
  rw [ei _ t9 t8, ei _ t7 t6]
  exact t17
/-- the class's start of the call -/
theorem law8_go (hS : SK σ) (hT : Tp nt σ) (g17 : zi σ 1 17 = iN nL) (hn : nL < 6) : ∃ nT, TN (tbO σ) nt nT ∧ match textP (kdN (tbO σ) nt) (nmN (tbO σ) nt) true nT 12 0 0 with
    | (_, some l) => ∃ σ0 σ1 t, Ag LF σ σ0 ∧ zi σ0 98 1 = 0 ∧ (∀ a, ¬ (a = 98 ∨ (100 ≤ a ∧ a ≤ 105)) → zi σ0 a = zi σ a) ∧ Gr σ0 σ1 ∧ t = zn σ ∧ TextOK t l σ1 ∧ s_X8_law 0 σ = some (iN nL, zsi (zsi (zsr (zsi σ1 0 15 (-1)) 16 nL (some t)) 1 17 (iN (nL + 1))) 0 18 0)
    | (k1, none) => ∃ σ1, Ag LF σ σ1 ∧ zi σ1 98 1 = 0 ∧ (∀ a, ¬ (a = 98 ∨ (100 ≤ a ∧ a ≤ 105)) → zi σ1 a = zi σ a) ∧ s_X8_law 0 σ = some (-6, zsi (zsi (zsi σ1 0 15 (iN (psN (tbO σ) nt k1))) 0 18 (-6)) 124 4 (zi (zsi σ1 0 15 (iN (psN (tbO σ) nt k1))) 124 4 + 1)) := by
  have r5 := q_r0_5 hS
  have l98 := q_i98 (k := 1) hS
  rw [hT.2.1] at l98
  have w98 := q_w98 (k := 1) (v := 0) hS
  have S1 : SK (zsi σ 98 1 0) := hS
  have r0 := q_r0_0 S1
  have i17 := h_i0 (k := 17) S1.hk1
  rw [zi_ne (by decide), g17] at i17
  have f1 : ¬ iN nL < 0 := iN_nn (by omega)
  have f2 : iN nL < 6 := (iN_lt (b := 6) (by omega) (by decide)).mpr hn
  have r6 := q_r0_6 S1
  have r51 := q_r0_5 S1
  have k4 := q_ck100 S1
  have e1 : Ag (fun a k => a = 98 ∧ k = 1) σ (zsi σ 98 1 0) := Ag.zsi ⟨rfl, rfl⟩
  have v98 : zi (zsi σ 98 1 0) 98 1 = 0 := zi_hit
  have B1 := (tb8 hT).ag e1 (fun k q => by omega)
  generalize zsi σ 98 1 0 = u1 at w98 S1 r0 i17 r6 r51 k4 e1 v98 B1
  obtain ⟨nT, hN, hr⟩ := read8 (lw := true) S1 B1 hT.1
  refine ⟨nT, hN, ?_⟩
  have st : ∀ o u2, s_X4_read 100 (some 98) (iN nt) 1 u1 = some (o, u2) → s_X8_law 0 σ = (rdR 8 u2 0 6).bind fun r16 => (r16).bind fun a17 => (rdI 4 u2 a17 11).bind fun v18 => (wrI 8 u2 0 15 (v18)).bind fun σ19 => if o = none then (ck 8 σ19 0).bind fun u31 => cb (s_X8_refuse 0 ((-6)) σ19) fun v33 σ32 => some ((v33), σ32) else (rdR 8 σ19 0 0).bind fun r20 => (r20).bind fun a21 => (rdR 1 σ19 a21 11).bind fun r22 => (r22).bind fun a23 => (stR 15 7 σ19 a23 (iN nL) (o)).bind fun σ24 => (rdR 8 σ24 0 0).bind fun r25 => (r25).bind fun a26 => (wrI 1 σ24 a26 17 (iN nL + 1)).bind fun σ27 => (ck 8 σ27 0).bind fun u28 => cb (s_X8_grant 0 (iN nL) σ27) fun v30 σ29 => some ((v30), σ29) := fun o u2 x => by
    unfold s_X8_law
    rw [r5, bos, bos, l98, bos, bos, bos, w98, bos, r0, bos, bos, i17, bos, if_neg f1, if_pos f2, r6, bos, r51, bos, bos, k4, bos, x, cbs]
  generalize textP (kdN (tbO σ) nt) (nmN (tbO σ) nt) true nT 12 0 0 = r at hr
  obtain ⟨k1, ol⟩ := r
  cases ol with
  | none =>
    obtain ⟨u2, x, e2, v11⟩ := hr
    have E : Ag LF σ u2 := (e1.mono (fun a k q => by unfold LF; omega)).trans (e2.mono (fun a k q => q.lf))
    have S2 := hS.ag E
    have r6 := q_r0_6 S2
    have i11 := q_i100 (k := 11) S2
    rw [v11] at i11
    have w15 := q_w0 (k := 15) (v := iN (psN (tbO σ) nt k1)) S2
    have S3 : SK (zsi u2 0 15 (iN (psN (tbO σ) nt k1))) := S2
    have k8 := q_ck0 S3
    have rf := ref8_6 S3
    refine ⟨u2, E, by rw [(e2.2.2.2.2 98 1 (by unfold Srd; omega)).1]; exact v98, fun a ha => funext fun k => by rw [(e2.2.2.2.2 a k (by unfold Srd; omega)).1, (e1.2.2.2.2 a k (by omega)).1], ?_⟩
    rw [st _ _ x, r6, bos, bos, i11, bos, w15, bos, if_pos rfl, k8, bos, rf, cbs]
  | some l =>
    obtain ⟨σ0, u2, t, x, e2, G, ht, v11, hTx⟩ := hr
    have E : Ag LF σ σ0 := (e1.mono (fun a k q => by unfold LF; omega)).trans (e2.mono (fun a k q => q.lf))
    have S2 : SK u2 := G.sk (hS.ag E)
    have r6 := q_r0_6 S2
    have i11 := q_i100 (k := 11) S2
    rw [v11] at i11
    have w15 := q_w0 (k := 15) (v := -1) S2
    have S3 : SK (zsi u2 0 15 (-1)) := S2
    have r0 := q_r0_0 S3
    have r16 : rdR 1 (zsi u2 0 15 (-1)) 1 11 = some (some 16) := h_r0_11 S3.hk1
    have tk : zk (zsi u2 0 15 (-1)) t = 7 := by obtain ⟨-, -, -, -, -, t3, -⟩ := hTx; exact t3
    have sr : stR 15 7 (zsi u2 0 15 (-1)) 16 (iN nL) (some t) = some (zsr (zsi u2 0 15 (-1)) 16 nL (some t)) := stR_n (S3.2.1 16 (by decide)).1 (S3.2.1 16 (by decide)).2 hn (by decide) (Or.inr ⟨t, rfl, tk⟩)
    have S4 : SK (zsr (zsi u2 0 15 (-1)) 16 nL (some t)) := (GG.zsr (S := LSw)).sk S3
    have r04 := q_r0_0 S4
    have i1 : iN nL + 1 = iN (nL + 1) := iN_add nL 1
    have w17 := h_w0 (k := 17) (v := iN (nL + 1)) S4.hk1
    have S5 : SK (zsi (zsr (zsi u2 0 15 (-1)) 16 nL (some t)) 1 17 (iN (nL + 1))) := S4
    have k8 := q_ck0 S5
    have gr := grant8 S5 (v := iN nL)
    refine ⟨σ0, u2, t, E, by rw [(e2.2.2.2.2 98 1 (by unfold Srd; omega)).1]; exact v98, fun a ha => funext fun k => by rw [(e2.2.2.2.2 a k (by unfold Srd; omega)).1, (e1.2.2.2.2 a k (by omega)).1], G, ht.trans e1.1, hTx, ?_⟩
    rw [st _ _ x, r6, bos, bos, i11, bos, w15, bos, if_neg (Option.some_ne_none t), r0, bos, bos, r16, bos, bos, sr, bos, r04, bos, bos, i1, w17, bos, k8, bos, gr, cbs]
end V43
