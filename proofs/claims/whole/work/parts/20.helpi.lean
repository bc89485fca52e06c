theorem x_metI {l : Launch} {y : MethodName} {ws ws' : List Cond} {rm : Room} {cc : ByteArray} {maxL : Nat} {ret : Option FieldType} {own : String} {D : va_G} {cI cJ cZ : ClassId} {W0 : va_W} {sz : Nat} {av : List Value} {Qc : (Nat → Prop) → Array Value → State → Outcome → State → Prop} {mc ms : Nat} (hy : plainName y.cls = true) (hw : ws = Cond.code y cc maxL ret :: ws') (ho : y.cls = own) (hlen : (lg_sl av).length ≤ maxL)
    (body : ∀ (p : Program) (e : Env) (s : State) (m : MethodId) (args : Array Value) (below : List Frame) (meth : Method) (c : Code) (A : Nat → Prop) (ls : Array Slot), xEnv p s m args meth c cc ret maxL own ws D cI cJ cZ A → meth.name = y.name → va_P D vwCl W0 s.heap → va_D A W0 → va_S A s.heap s.heap [] → lv_has ls maxL (lv_args 0 av) → W p l e rm s m args below meth c s.heap [] 0 0 (MQ below (Qc A) args s mc ms A) (F0 m 0 ls [])) :
    Met l y ws rm (va_Pc av (xPre D cI cJ cZ W0 sz)) (Qc (va_A W0 sz)) mc ms (va_A W0 sz) := by
  refine Met.ofW (cc := cc) (maxL := maxL) (ret := ret) hy hw ?_
  intro p e s m args below meth c s₁ B hml hv
  obtain ⟨rfl, hsz, hP, hK, hD0, n1, n2⟩ := hv
  subst hsz
  have hown : s.vm.findClass own = some m.cls := by rw [← ho]; exact findClass_of_methodNamed B.named
  have hts := atoms_spec (ws := ws) B.pre
  have hl := lv_entry av (n := maxL) hlen
  rw [lg_entry_eq]
  generalize (lg_sl av ++ List.replicate (maxL - (lg_sl av).length) Slot.unset).toArray = ls at hl ⊢
  exact body p e s m _ below meth c _ ls ⟨B.exec, B.bytes, B.returns, hml, hown, hts, B.notSynchronized, hK, fun q h => Or.inr h, n1, n2⟩ (name_of_methodNamed B.named B.method).1 hP hD0.self va_S.rf hl
theorem x_cls {D : va_G} {cI cJ cZ cA : ClassId} {s : State} {ty : FieldType} (k : Nat) {cB : ClassId} (hB : (xT cI cJ cZ)[k]? = some (cB, ty)) (hK : va_K D vwCl (xT cI cJ cZ ++ [(cA, ty)]) s) (h : ∀ c, va_RA s c ty → s.vm.findClass ("[" ++ ty.toString) = some c) : cA = cB := by
  have h1 := h _ (hK.2 3 (cA, ty) rfl).2
  have h2 := h _ (hK.2 k (cB, ty) (by
    have hk : k < (xT cI cJ cZ).length := (List.getElem?_eq_some_iff.mp hB).1
    rw [List.getElem?_append_left hk]; exact hB)).2
  exact Option.some.inj (h1.symm.trans h2)
theorem x_ai (cA : ClassId) (N : Nat) : vp_cell cA (N, .inl (fun _ => 0)) = arrV cA N (fun _ => defaultValue .int) := vp_cell_i cA N _
theorem x_az (cA : ClassId) (N : Nat) : vp_cell cA (N, .inl (fun _ => 0)) = arrV cA N (fun _ => defaultValue .boolean) := vp_cell_i cA N _
theorem x_al (cA : ClassId) (N : Nat) : vp_cell cA (N, .inr (.inl (fun _ => 0))) = arrV cA N (fun _ => defaultValue .long) := vp_cell_l cA N _
theorem x_rai {s : State} (cA : ClassId) (h : va_RA s cA .int) : s.vm.findClass ("[" ++ FieldType.int.toString) = some cA := by unfold va_RA at h; exact h
theorem x_ral {s : State} (cA : ClassId) (h : va_RA s cA .long) : s.vm.findClass ("[" ++ FieldType.long.toString) = some cA := by unfold va_RA at h; exact h
theorem x_raz {s : State} (cA : ClassId) (h : va_RA s cA .boolean) : s.vm.findClass ("[" ++ FieldType.boolean.toString) = some cA := by unfold va_RA at h; exact h
section XN
variable {p : Program} {l : Launch} {e : Env} {R : Room} {s : State} {m : MethodId} {args : Array Value} {below : List Frame} {meth : Method} {c : Code} {H : Heap} {locs : List Loc} {cells slots : Nat} {Q : State → Prop} {D : va_G} {A0 A : Nat → Prop} {H0 : Heap} {pc : Nat} {ls : Array Slot} {rest st0 : List Value} {a : Array Value} {cc : ByteArray} {ws : va_W} {cI cJ cZ : ClassId}
theorem x_newI {n : Int32} {N c2 s2 : Nat} (hx : p.tables.exec = Jvm.exec) (hb : c.code = cc) (harr : (Cond.arrayClass .int).before args s = true) (hK : va_K D vwCl (xT cI cJ cZ) s) (hP : va_P D vwCl ws H) (hD : va_D A ws) (hS : va_S A H0 H locs) (hA : ∀ q, H0.size ≤ q → A q) (hn : ¬ n < 0) (hN : n.toNatClampNeg = N) (hby : N * componentBytes .int ≤ 536870912) (hc2 : cells + 1 = c2) (hs2 : slots + N = s2) (hcells : c2 ≤ R.cells) (hslots : s2 ≤ R.slots) (hdg : decode cc pc = .ok (.newarray .int, 2))
    (kk : ∀ (q : Nat) (H1 : Heap), va_P D vwCl (ws ++ [(q, .inl (cI, N, .inl (fun _ => 0)))]) H1 → va_D A (ws ++ [(q, .inl (cI, N, .inl (fun _ => 0)))]) → va_S A H0 H1 locs → W p l e R s m args below meth c H1 locs c2 s2 Q (F0 m (pc + 2) ls (.ref q :: rest))) : W p l e R s m args below meth c H locs cells slots Q (F0 m pc ls (.int n :: rest)) := by
  subst hc2 hs2
  refine va_newa (atype := .int) (ty := .int) (a0 := (N, .inl (fun _ => 0))) hx hb harr rfl hK hP hD hS hA (fun cA => x_ai cA N) hn hN hby hcells hslots hdg (fun q cA H1 hK1 hP1 hD1 hS1 => ?_)
  have ec : cA = cI := x_cls 0 rfl hK1 (fun cA h => x_rai cA h)
  subst ec
  exact kk q H1 hP1 hD1 hS1
theorem x_newJ {n : Int32} {N c2 s2 : Nat} (hx : p.tables.exec = Jvm.exec) (hb : c.code = cc) (harr : (Cond.arrayClass .long).before args s = true) (hK : va_K D vwCl (xT cI cJ cZ) s) (hP : va_P D vwCl ws H) (hD : va_D A ws) (hS : va_S A H0 H locs) (hA : ∀ q, H0.size ≤ q → A q) (hn : ¬ n < 0) (hN : n.toNatClampNeg = N) (hby : N * componentBytes .long ≤ 536870912) (hc2 : cells + 1 = c2) (hs2 : slots + N = s2) (hcells : c2 ≤ R.cells) (hslots : s2 ≤ R.slots) (hdg : decode cc pc = .ok (.newarray .long, 2))
    (kk : ∀ (q : Nat) (H1 : Heap), va_P D vwCl (ws ++ [(q, .inl (cJ, N, .inr (.inl (fun _ => 0))))]) H1 → va_D A (ws ++ [(q, .inl (cJ, N, .inr (.inl (fun _ => 0))))]) → va_S A H0 H1 locs → W p l e R s m args below meth c H1 locs c2 s2 Q (F0 m (pc + 2) ls (.ref q :: rest))) : W p l e R s m args below meth c H locs cells slots Q (F0 m pc ls (.int n :: rest)) := by
  subst hc2 hs2
  refine va_newa (atype := .long) (ty := .long) (a0 := (N, .inr (.inl (fun _ => 0)))) hx hb harr rfl hK hP hD hS hA (fun cA => x_al cA N) hn hN hby hcells hslots hdg (fun q cA H1 hK1 hP1 hD1 hS1 => ?_)
  have ec : cA = cJ := x_cls 1 rfl hK1 (fun cA h => x_ral cA h)
  subst ec
  exact kk q H1 hP1 hD1 hS1
theorem x_newZ {n : Int32} {N c2 s2 : Nat} (hx : p.tables.exec = Jvm.exec) (hb : c.code = cc) (harr : (Cond.arrayClass .boolean).before args s = true) (hK : va_K D vwCl (xT cI cJ cZ) s) (hP : va_P D vwCl ws H) (hD : va_D A ws) (hS : va_S A H0 H locs) (hA : ∀ q, H0.size ≤ q → A q) (hn : ¬ n < 0) (hN : n.toNatClampNeg = N) (hby : N * componentBytes .boolean ≤ 536870912) (hc2 : cells + 1 = c2) (hs2 : slots + N = s2) (hcells : c2 ≤ R.cells) (hslots : s2 ≤ R.slots) (hdg : decode cc pc = .ok (.newarray .boolean, 2))
    (kk : ∀ (q : Nat) (H1 : Heap), va_P D vwCl (ws ++ [(q, .inl (cZ, N, .inl (fun _ => 0)))]) H1 → va_D A (ws ++ [(q, .inl (cZ, N, .inl (fun _ => 0)))]) → va_S A H0 H1 locs → W p l e R s m args below meth c H1 locs c2 s2 Q (F0 m (pc + 2) ls (.ref q :: rest))) : W p l e R s m args below meth c H locs cells slots Q (F0 m pc ls (.int n :: rest)) := by
  subst hc2 hs2
  refine va_newa (atype := .boolean) (ty := .boolean) (a0 := (N, .inl (fun _ => 0))) hx hb harr rfl hK hP hD hS hA (fun cA => x_az cA N) hn hN hby hcells hslots hdg (fun q cA H1 hK1 hP1 hD1 hS1 => ?_)
  have ec : cA = cZ := x_cls 2 rfl hK1 (fun cA h => x_raz cA h)
  subst ec
  exact kk q H1 hP1 hD1 hS1
/-- a constructor's call: its one cell goes, its whole tree comes back behind the rest -/
theorem x_calln {T : Type} {post : T → Prop} {w1 : T → va_W} {wc : va_W} {mc ms c2 s2 : Nat} (hP : va_P D vwCl ws H) (hD : va_D A0 ws) (hS : va_S A0 H0 H locs) (hA : ∀ q, H0.size ≤ q → A0 q) (isC isR : List Nat) {n : Nat} (hn : ws.length = n) (hC : xPick ws isC = wc) (hck : xCk n 0 isC isR [] = true) (hc2 : cells + mc = c2) (hs2 : slots + ms = s2)
    (hr : va_Run p l e R s m args below meth c H locs cells slots mc ms (F0 m pc ls st0) rest (va_Qv post (fun u t => xPost D (va_A wc H.size) (w1 u) t) (va_A wc H.size) a) (va_A wc H.size))
    (kk : ∀ (u : T) (H1 : Heap) (locs1 : List Loc), post u → va_P D vwCl (xPick ws isR ++ w1 u) H1 → va_D A0 (xPick ws isR ++ w1 u) → va_S A0 H0 H1 locs1 → W p l e R s m args below meth c H1 locs1 c2 s2 Q (F0 m (pc + 3) ls rest)) : W p l e R s m args below meth c H locs cells slots Q (F0 m pc ls st0) := by
  subst hc2 hs2
  have hF : ∀ q, va_A wc H.size q → A0 q := fun q h => by
    rcases h with ⟨k, e, h⟩ | h
    · rw [← hC] at h
      obtain ⟨i, -, hi⟩ := List.mem_filterMap.mp (List.mem_of_getElem? h)
      exact hD.2 i _ hi
    · exact hA q (Nat.le_trans hS.1 h)
  refine va_callv hr hS (fun q _ h => hF q h) hF (fun u t H1 locs1 ht hvm hw hB hz1 hk1 hS1 => ?_)
  obtain ⟨hP1, hD1⟩ := hB
  rw [ht] at hP1
  simp only [xCk, Bool.and_eq_true] at hck
  obtain ⟨⟨⟨⟨⟨⟨h1, h2⟩, h3⟩, h4⟩, h5⟩, h6⟩, h7⟩ := hck
  subst hn
  have hdis : ∀ i ∈ isR, i ∉ isC := fun i hi hc => by
    have := List.all_eq_true.mp h5 i hi
    simp at this
    exact this hc
  obtain ⟨hP2, hD2⟩ := va_join (wr := xPick ws isR) hP hD isC isR (by rw [← hC]; exact xPick_map h1) (xPick_map h2) h4 hdis hk1 hF hP1 hD1
  exact kk u H1 locs1 hw hP2 hD2 hS1
end XN
