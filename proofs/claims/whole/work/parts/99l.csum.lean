/-! ===== the class's sum of an order ===== -/
section CSU
variable {σ : Hp}
theorem rk106 (hS : SK σ) : RK 106 107 108 σ := ⟨(hS.2.1 106 (by decide)).1, hS.2.2 (106, 0, 107) (by decide), hS.2.2 (106, 1, 108) (by decide), (hS.2.1 107 (by decide)).1, (hS.2.1 107 (by decide)).2, (hS.2.1 108 (by decide)).1, (hS.2.1 108 (by decide)).2⟩
theorem csum8 {a f m L q : Nat} {s : Sem} {w : Env} (hS : SK σ) (ha : zk σ a = 11) (hl : zl σ a = L) (hL : L ≤ 600) (hm : m ≤ L) (hs : CSeg (zi σ a) f m q s) (hq : q ≤ 64) (hw : ∀ k, k < 18 → zi σ 107 k = w k) : ∃ σ1, s_X5_value 106 (some a) (iN f) (iN m) σ = some ((s w).getD 9000000000, σ1) ∧ AJ 108 σ σ1 ∧ ∀ v, s w = some v → sm v := by
  have lt := hs.1
  obtain ⟨σ1, x1, x2, x3⟩ := value8 (rk106 hS) ha hl hL hm (show f ≤ L by omega)
  rw [cVal_congr hw, hs.val hq w] at x1 x3
  exact ⟨σ1, x1, x2, x3⟩
end CSU
