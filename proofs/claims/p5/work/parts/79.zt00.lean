/-! A weaker end. -/
theorem EvM_mono {tab : Nat → Nat → Option rvE} {info : Nat → rvM} {rets : Nat → Option FieldType} {NM : Nat} {mth : Nat → Option Nat} {j : Nat} {as : List rvV} {aw : rvH} {P Q : xRes2 → Prop} (h : ∀ res, P res → Q res) (he : EvM tab info rets NM mth j as aw P) : EvM tab info rets NM mth j as aw Q := by
  have hE := Ev_clo tab info rets NM mth
  exact he (fun j P o => ∀ Q : xRes2 → Prop, (∀ res, P res → Q res) → Ev tab info rets NM mth j Q o) (fun j as aw P => ∀ Q : xRes2 → Prop, (∀ res, P res → Q res) → EvM tab info rets NM mth j as aw Q)
    ⟨fun j P o o' i len a1 a2 a3 wi h1 h2 h3 h4 Q hq => hE.1 j Q o o' i len a1 a2 a3 wi h1 h2 h3 (h4 Q hq),
     fun j P o o' idx len a1 a2 a3 wi h1 h2 h3 h4 h5 Q hq => hE.2.1 j Q o o' idx len a1 a2 a3 wi h1 h2 h3 h4 (h5 Q hq),
     fun j P pc al i rest aw kc ks idx len a1 a2 a3 wi h1 h2 h3 h4 h5 Q hq => hE.2.2.1 j Q pc al i rest aw kc ks idx len a1 a2 a3 wi h1 h2 h3 h4 (h5 Q hq),
     fun j P R pc al st aw kc ks j2 as rest h1 h2 h3 h4 Q hq => hE.2.2.2.1 j Q R pc al st aw kc ks j2 as rest h1 h2 (h3 R (fun _ q => q)) (fun res hr => h4 res hr Q hq),
     fun j P pc al st aw kc ks i len a1 a2 a3 wi h1 h2 h3 h4 h5 h6 Q hq => hE.2.2.2.2.1 j Q pc al st aw kc ks i len a1 a2 a3 wi h1 h2 h3 h4 h5 (hq _ h6),
     fun j P pc al k x y rest aw kc ks idx len a1 a2 a3 wi h1 h2 h3 h4 h5 h6 h7 h8 h9 ha hb hd Q hq => hE.2.2.2.2.2.1 j Q pc al k x y rest aw kc ks idx len a1 a2 a3 wi h1 h2 h3 h4 h5 h6 h7 h8 h9 ha hb (hd Q hq),
     fun j P pc al x rest aw kc ks idx len a1 a2 a3 wi h1 h2 h3 h4 h5 h6 h7 h8 h9 hd Q hq => hE.2.2.2.2.2.2.1 j Q pc al x rest aw kc ks idx len a1 a2 a3 wi h1 h2 h3 h4 h5 h6 h7 h8 h9 (fun n n1 n2 => hd n n1 n2 Q hq),
     fun j P as aw h1 h2 h3 h4 Q hq => hE.2.2.2.2.2.2.2 j Q as aw h1 h2 h3 (h4 Q hq)⟩ Q h
