/-! Two more rules; a counter that grows. -/
section JX
variable {g : Nat → Nat} {tab : Nat → Nat → Option rvE} {info : Nat → rvM} {rets : Nat → Option FieldType} {NM : Nat} {mth : Nat → Option Nat}
variable {j pc len a1 a2 a3 wi : Nat} {i : Instr} {al st : List rvV} {H : hH} {Post : xRes2 → Prop}
theorem J_xor {a b : Int} (hw : jRows tab NM) (hj : j < NM) (ht : tab j pc = some (.ixor, len, a1, a2, a3, wi)) (h : J g tab info rets NM mth j Post (pc + 1) al (pt (iop (· ^^^ ·) a b) :: st) H) : J g tab info rets NM mth j Post pc al (pt b :: pt a :: st) H := by
  refine J_pure hw hj ht (evn rfl) (fun BC BS aw kc ks o' he => ?_) h
  rw [← rvBin_p2]
  exact (Option.some.inj he).symm
theorem J_div {a b : Int} (hw : jRows tab NM) (hj : j < NM) (ht : tab j pc = some (.idiv, len, a1, a2, a3, wi)) (h : J g tab info rets NM mth j Post (pc + 1) al (pt (iop (fun x y => x / y) a b) :: st) H) : J g tab info rets NM mth j Post pc al (pt b :: pt a :: st) H := by
  refine J_pure hw hj ht (evn rfl) (fun BC BS aw kc ks o' he => ?_) h
  rw [← rvBin_p2]
  exact rv_bifr he
theorem J_ldcw (pc' : Nat) {idx : Nat} (hw : jRows tab NM) (hj : j < NM) (ht : tab j pc = some (.ldc_w idx, len, a1, a2, a3, wi)) (hp : pc + 3 = pc') (h : J g tab info rets NM mth j Post pc' al (pt (a2 : Int) :: st) H) : J g tab info rets NM mth j Post pc al st H := by
  subst hp
  refine J_pure hw hj ht (evn rfl) (fun BC BS aw kc ks o' he => ?_) h
  exact rv_bifr he
end JX
abbrev iXor := iop (· ^^^ ·)
abbrev iDiv := iop (fun x y => x / y)
theorem mpJ {n i : Int} {k : Nat} (hn : xIn32 n) (hv : xIn32 i) (h0 : i < n) (hm : (n - i).toNat ≤ k + 1) : (n - iAdd i 1).toNat ≤ k := mpI hn.2 hv h0 hm
theorem mpS {n i m : Int} {k : Nat} (e : m = n) (hn : xIn32 n) (hv : xIn32 i) (h0 : i < n) (hm : (n - i).toNat ≤ k + 1) : (m - iAdd i 1).toNat ≤ k := by
  subst e
  exact mpI hn.2 hv h0 hm
