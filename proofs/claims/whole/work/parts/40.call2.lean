theorem xPick_comp {U : va_W} {is : List Nat} (h : is.all (fun i => decide (i < U.length)) = true) : ∀ ps : List Nat, xPick (xPick U is) ps = xPick U (ps.filterMap (fun i => is[i]?))
  | [] => rfl
  | i :: ps => by
    have ih := xPick_comp h ps
    have hm := xPick_map (ws := U) h
    have e : (xPick U is)[i]? = (is[i]?).bind (fun j => U[j]?) := by
      have h1 : (is.map (fun i => U[i]?))[i]? = ((xPick U is).map some)[i]? := by rw [hm]
      rw [List.getElem?_map, List.getElem?_map] at h1
      cases h2 : is[i]? with
      | none =>
        rw [h2] at h1
        cases h3 : (xPick U is)[i]? with
        | none => rfl
        | some x => rw [h3] at h1; exact absurd h1 (by simp)
      | some j =>
        rw [h2] at h1
        cases h3 : (xPick U is)[i]? with
        | none => rw [h3] at h1; exact absurd h1 (by simp)
        | some x =>
          rw [h3] at h1
          simp at h1
          simp [h1]
    show List.filterMap (fun i => (xPick U is)[i]?) (i :: ps) = List.filterMap (fun i => U[i]?) ((i :: ps).filterMap (fun i => is[i]?))
    rw [List.filterMap_cons, List.filterMap_cons, e]
    cases h2 : is[i]? with
    | none => exact ih
    | some j =>
      have e2 : (some j).bind (fun j => U[j]?) = U[j]? := rfl
      rw [e2]
      cases h3 : U[j]? with
      | none => exact Eq.trans ih (List.filterMap_cons_none h3).symm
      | some x => exact Eq.trans (congrArg (x :: ·) ih) (List.filterMap_cons_some h3).symm
theorem xPick_app {ws w1 : va_W} {is : List Nat} (h : is.all (fun i => decide (i < ws.length)) = true) : xPick ws is ++ w1 = xPick (ws ++ w1) (is ++ List.range' ws.length w1.length) := by
  show _ = List.filterMap (fun i => (ws ++ w1)[i]?) (is ++ List.range' ws.length w1.length)
  rw [List.filterMap_append]
  congr 1
  · have gen : ∀ l : List Nat, (∀ i ∈ l, i < ws.length) → List.filterMap (fun i => ws[i]?) l = List.filterMap (fun i => (ws ++ w1)[i]?) l := by
      intro l
      induction l with
      | nil => intro _; rfl
      | cons i l ih =>
        intro hl
        rw [List.filterMap_cons, List.filterMap_cons, ih (fun j hj => hl j (List.mem_cons_of_mem _ hj)), List.getElem?_append_left (hl i List.mem_cons_self)]
    exact gen is (fun i hi => by
      have := List.all_eq_true.mp h i hi
      simpa using this)
  · have key : ∀ (w : va_W) (k : Nat), (∀ i, i < w.length → (ws ++ w1)[k + i]? = w[i]?) → w = List.filterMap (fun i => (ws ++ w1)[i]?) (List.range' k w.length) := by
      intro w
      induction w with
      | nil => intro k _; rfl
      | cons x w ih =>
        intro k hk
        show x :: w = List.filterMap (fun i => (ws ++ w1)[i]?) (k :: List.range' (k + 1) w.length)
        rw [List.filterMap_cons]
        have h0 := hk 0 (by simp)
        simp at h0
        rw [h0]
        show x :: w = x :: _
        congr 1
        exact ih (k + 1) (fun i hi => by
          have := hk (i + 1) (by simp; omega)
          rw [show k + 1 + i = k + (i + 1) by omega, this]
          rfl)
    exact key w1 ws.length (fun i hi => by rw [List.getElem?_append_right (by omega)]; congr 1; omega)
def xJs (n k : Nat) (isR ps js : List Nat) : Bool := decide (ps.filterMap (fun i => (isR ++ List.range' n k)[i]?) = js)
theorem xPick_two {ws w1 ws' : va_W} {n k : Nat} {isC isR ps js : List Nat} (hn : ws.length = n) (hk : w1.length = k) (hck : xCk n k isC isR ps = true) (hj : xJs n k isR ps js = true) (h : xPick (ws ++ w1) js = ws') : xPick (xPick ws isR ++ w1) ps = ws' := by
  subst hn hk
  simp only [xCk, Bool.and_eq_true] at hck
  have h2 := hck.1.1.1.1.1.2
  rw [xPick_app h2, xPick_comp, of_decide_eq_true hj, h]
  rw [List.all_eq_true]
  intro i hi
  rw [List.length_append]
  rcases List.mem_append.mp hi with q | q
  · have := List.all_eq_true.mp h2 i q
    simp at this
    simp; omega
  · have := List.mem_range'.mp q
    obtain ⟨j, hj, e⟩ := this
    simp; omega
section XB
variable {p : Program} {l : Launch} {e : Env} {R : Room} {s : State} {m : MethodId} {args : Array Value} {below : List Frame} {meth : Method} {c : Code} {H : Heap} {locs : List Loc} {cells slots : Nat} {Q : State → Prop} {D : va_G} {A0 A : Nat → Prop} {H0 : Heap} {pc : Nat} {ls : Array Slot} {rest st0 : List Value} {a : Array Value} {cc : ByteArray}
theorem x_callj {T : Type} {post : Int32 → T → Prop} {w1 ws' : T → va_W} {ws wc : va_W} (hP : va_P D vwCl ws H) (hD : va_D A0 ws) (hS : va_S A0 H0 H locs) (hA : ∀ q, H0.size ≤ q → A0 q) (isC isR ps js : List Nat) {n k : Nat} (hn : ws.length = n) (hkl : ∀ u, (w1 u).length = k) (hC : xPick ws isC = wc) (hck : xCk n k isC isR ps = true) (hj : xJs n k isR ps js = true) (hps : ∀ u, xPick (ws ++ w1 u) js = ws' u)
    (hr : va_Run p l e R s m args below meth c H locs cells slots 0 0 (F0 m pc ls st0) rest (va_Qi post (fun u t => xPost D (va_A wc H.size) (w1 u) t) (va_A wc H.size) a) (va_A wc H.size))
    (kk : ∀ (r : Int32) (u : T) (H1 : Heap) (locs1 : List Loc), post r u → va_P D vwCl (ws' u) H1 → va_D A0 (ws' u) → va_S A0 H0 H1 locs1 → W p l e R s m args below meth c H1 locs1 cells slots Q (F0 m (pc + 3) ls (.int r :: rest))) : W p l e R s m args below meth c H locs cells slots Q (F0 m pc ls st0) :=
  x_calli hP hD hS hA isC isR ps hn hkl hC hck (fun u => xPick_two hn (hkl u) hck hj (hps u)) hr kk
end XB
