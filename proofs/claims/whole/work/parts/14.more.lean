/-! MORE: array rules by small numbers, long tops, a heap with less in it -/
section PWMO
variable {G : fw_G} {y : fw_M} {Q : fw_Q} {d kc ks : Nat} {h : fw_H} {pc nx a : Nat} {v : Int32} {L : List (Nat × Value)} {st : List Value} {tb : List fw_R}
theorem pw_forget {h' : fw_H} (hs : ∀ (b : Nat) (o : fw_O), h' b = some o → h b = some o) (k : PW G y Q d kc ks h' pc L st) : PW G y Q d kc ks h pc L st := by
  intro p e R s m args below meth c H locs cells slots ls C X
  obtain ⟨⟨ws, x1, x2, x3⟩, x4⟩ := X
  exact k p e R s m args below meth c H locs cells slots ls C ⟨⟨ws, x1, x2, fun b o hb => x3 b o (hs b o hb)⟩, x4⟩
theorem pw_h {h' : fw_H} (e : h = h') (k : PW G y Q d kc ks h' pc L st) : PW G y Q d kc ks h pc L st := e ▸ k
theorem pw_l {x x' : Int64} (e : x = x') (k : PW G y Q d kc ks h pc L (.long x' :: st)) : PW G y Q d kc ks h pc L (.long x :: st) := e ▸ k
theorem pw_q {x x' : Option Nat} (e : x = x') (k : PW G y Q d kc ks h pc L (va_rf x' :: st)) : PW G y Q d kc ks h pc L (va_rf x :: st) := e ▸ k
theorem pw_ialdN {b n k : Nat} {f : Nat → Int32} {i : Int32} (hT : fw_tok y tb) (hr : fw_at tb pc = some (.iaload, nx, a, v)) (ho : h b = some (.inl (0, n, .inl f))) (hi : i = nI k) (hk : k < n) (hn : n < 2147483648) (kk : PW G y Q d kc ks h nx L (.int (f k) :: st)) : PW G y Q d kc ks h pc L (.int i :: .ref b :: st) := by
  subst hi
  refine pw_iald hT hr ho (vp_in_nI hk hn) ?_
  rw [nI_clamp (show k < 2 ^ 31 by omega)]
  exact kk
theorem pw_zaldN {b n k : Nat} {f : Nat → Int32} {i : Int32} (hT : fw_tok y tb) (hr : fw_at tb pc = some (.baload, nx, a, v)) (ho : h b = some (.inl (2, n, .inl f))) (hi : i = nI k) (hk : k < n) (hn : n < 2147483648) (kk : PW G y Q d kc ks h nx L (.int (f k) :: st)) : PW G y Q d kc ks h pc L (.int i :: .ref b :: st) := by
  subst hi
  refine pw_zald hT hr ho (vp_in_nI hk hn) ?_
  rw [nI_clamp (show k < 2 ^ 31 by omega)]
  exact kk
theorem pw_laldN {b n k : Nat} {f : Nat → Int64} {i : Int32} (hT : fw_tok y tb) (hr : fw_at tb pc = some (.laload, nx, a, v)) (ho : h b = some (.inl (1, n, .inr (.inl f)))) (hi : i = nI k) (hk : k < n) (hn : n < 2147483648) (kk : PW G y Q d kc ks h nx L (.long (f k) :: st)) : PW G y Q d kc ks h pc L (.int i :: .ref b :: st) := by
  subst hi
  refine pw_lald hT hr ho (vp_in_nI hk hn) ?_
  rw [nI_clamp (show k < 2 ^ 31 by omega)]
  exact kk
theorem pw_aaldN {b n k t : Nat} {f : Nat → Option Nat} {Cn : String} {i : Int32} (hT : fw_tok y tb) (hr : fw_at tb pc = some (.aaload, nx, a, v)) (ho : h b = some (.inl (t, n, .inr (.inr (.inr (.inr f)))))) (ht : t < 11) (hc : fw_ty t = .object Cn) (hi : i = nI k) (hk : k < n) (hn : n < 2147483648) (kk : PW G y Q d kc ks h nx L (va_rf (f k) :: st)) : PW G y Q d kc ks h pc L (.int i :: .ref b :: st) := by
  subst hi
  refine pw_aald hT hr ho ht hc (vp_in_nI hk hn) ?_
  rw [nI_clamp (show k < 2 ^ 31 by omega)]
  exact kk
theorem pw_iastN {b n k : Nat} {f : Nat → Int32} {i x : Int32} (hT : fw_tok y tb) (hr : fw_at tb pc = some (.iastore, nx, a, v)) (ho : h b = some (.inl (0, n, .inl f))) (hi : i = nI k) (hk : k < n) (hn : n < 2147483648) (kk : PW G y Q d kc ks (fw_up h b (.inl (0, n, .inl (upd f k x)))) nx L st) : PW G y Q d kc ks h pc L (.int x :: .int i :: .ref b :: st) := by
  subst hi
  refine pw_iast hT hr ho (vp_in_nI hk hn) ?_
  rw [nI_clamp (show k < 2 ^ 31 by omega)]
  exact kk
theorem pw_zastN {b n k : Nat} {f : Nat → Int32} {i : Int32} {z : Bool} (hT : fw_tok y tb) (hr : fw_at tb pc = some (.bastore, nx, a, v)) (ho : h b = some (.inl (2, n, .inl f))) (hi : i = nI k) (hk : k < n) (hn : n < 2147483648) (kk : PW G y Q d kc ks (fw_up h b (.inl (2, n, .inl (upd f k (bI z))))) nx L st) : PW G y Q d kc ks h pc L (.int (bI z) :: .int i :: .ref b :: st) := by
  subst hi
  refine pw_zast hT hr ho (vp_in_nI hk hn) ?_
  rw [nI_clamp (show k < 2 ^ 31 by omega), show vp_nar .boolean (bI z) = bI z by unfold vp_nar; rw [bI_z]]
  exact kk
theorem pw_lastN {b n k : Nat} {f : Nat → Int64} {i : Int32} {x : Int64} (hT : fw_tok y tb) (hr : fw_at tb pc = some (.lastore, nx, a, v)) (ho : h b = some (.inl (1, n, .inr (.inl f)))) (hi : i = nI k) (hk : k < n) (hn : n < 2147483648) (kk : PW G y Q d kc ks (fw_up h b (.inl (1, n, .inr (.inl (vp_updL f k x))))) nx L st) : PW G y Q d kc ks h pc L (.long x :: .int i :: .ref b :: st) := by
  subst hi
  refine pw_last hT hr ho (vp_in_nI hk hn) ?_
  rw [nI_clamp (show k < 2 ^ 31 by omega)]
  exact kk
theorem pw_aastN {b n k t ci w : Nat} {f : Nat → Option Nat} {i : Int32} {r : vw_C} {fs : List Value} (hT : fw_tok y tb) (hr : fw_at tb pc = some (.aastore, nx, a, v)) (ho : h b = some (.inl (t, n, .inr (.inr (.inr (.inr f)))))) (ht : t < 11) (hw : h w = some (.inr (ci, fs))) (hc : vwCl[ci]? = some r) (hty : fw_ty t = .object r.1) (hi : i = nI k) (hk : k < n) (hn : n < 2147483648) (kk : PW G y Q d kc ks (fw_up h b (.inl (t, n, .inr (.inr (.inr (.inr (va_up f k (some w)))))))) nx L st) : PW G y Q d kc ks h pc L (.ref w :: .int i :: .ref b :: st) := by
  subst hi
  refine pw_aast hT hr ho ht hw hc hty (vp_in_nI hk hn) ?_
  rw [nI_clamp (show k < 2 ^ 31 by omega)]
  exact kk
end PWMO
theorem fw_up_i {h : fw_H} {a : Nat} {o : fw_O} (e : h a = some o) : fw_up h a o = h := funext fun b => by
  by_cases c : b = a
  · subst c
    rw [fw_up_s, e]
  · rw [fw_up_n c]
theorem fw_up_2 {h : fw_H} {a : Nat} {o o' : fw_O} : fw_up (fw_up h a o) a o' = fw_up h a o' := funext fun b => by
  by_cases c : b = a
  · subst c
    rw [fw_up_s, fw_up_s]
  · rw [fw_up_n c, fw_up_n c, fw_up_n c]
theorem fw_ne {h : fw_H} {a b : Nat} {o o' : fw_O} (h1 : h a = some o) (h2 : h b = some o') (n : o ≠ o') : a ≠ b := fun e => by
  subst e
  rw [h1] at h2
  exact n (Option.some.inj h2)
