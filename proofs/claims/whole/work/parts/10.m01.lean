abbrev wld_X1_follow (cI cJ cZ : ClassId) (h_p0 : Nat) (h_p1 : Nat) (ad_p0 : Nat → Nat) (ad_p0_all : Nat → Nat) (ad_p0_from : Nat → Nat) (ad_p0_to : Nat → Nat) (ad_p1 : Nat → Nat) (n_p0_all : Nat) (p0_made : Int32) (p0_turned : Int32) (p0_steps : Int32) (p0_all_width : Int32) (p0_all_size : Int32) (p1_places : Int32) (p1_steps : Int32) (p1_coloured : Int32) (p0_all_by : Nat → Int32) (p0_all_cells : Nat → Int32) (p0_all_former : Nat → Int32) (p0_all_heads : Nat → Int32) (p0_all_links : Nat → Int32) (p0_from_many : Nat → Int32) (p0_from_things : Nat → Int64) (p0_nexts : Nat → Int32) (p0_to_many : Nat → Int32) (p0_to_things : Nat → Int64) (p1_closed : Nat → Int32) (p1_gifts : Nat → Int32) (p1_heeds : Nat → Int32) (p1_needs : Nat → Int32) (p1_placeKinds : Nat → Int32) (p1_puts : Nat → Int32) (p1_putsInto : Nat → Int32) (p1_stepKinds : Nat → Int32) (p1_takes : Nat → Int32) (p1_takesFrom : Nat → Int32) (p1_wants : Nat → Int32) : va_W := [(h_p0, .inr (1, [.ref (ad_p0 0), .ref (ad_p0 1), .ref (ad_p0 2), .ref (ad_p0 3), .ref (ad_p0 4), .ref (ad_p0 5), .ref (ad_p0 6), .ref (ad_p0 7), .int p0_made, .int p0_turned, .int p0_steps])), ((ad_p0 0), .inr (4, [.ref (ad_p0_all 0), .ref (ad_p0_all 1), .ref (ad_p0_all 2), .ref (ad_p0_all 3), .ref (ad_p0_all 4), .int p0_all_width, .int p0_all_size])), ((ad_p0_all 2), .inl (cI, n_p0_all, .inl p0_all_by)), ((ad_p0_all 0), .inl (cI, (n_p0_all * 16), .inl p0_all_cells)), ((ad_p0_all 1), .inl (cI, n_p0_all, .inl p0_all_former)), ((ad_p0_all 4), .inl (cI, 1024, .inl p0_all_heads)), ((ad_p0_all 3), .inl (cI, n_p0_all, .inl p0_all_links)), ((ad_p0 1), .inr (3, [.ref (ad_p0_from 0), .ref (ad_p0_from 1)])), ((ad_p0_from 0), .inl (cI, 16, .inl p0_from_many)), ((ad_p0_from 1), .inl (cJ, 16, .inr (.inl p0_from_things))), ((ad_p0 3), .inl (cI, 128000, .inl p0_nexts)), ((ad_p0 2), .inr (3, [.ref (ad_p0_to 0), .ref (ad_p0_to 1)])), ((ad_p0_to 0), .inl (cI, 16, .inl p0_to_many)), ((ad_p0_to 1), .inl (cJ, 16, .inr (.inl p0_to_things))), (h_p1, .inr (5, [.ref (ad_p1 0), .ref (ad_p1 1), .ref (ad_p1 2), .ref (ad_p1 3), .ref (ad_p1 4), .ref (ad_p1 5), .ref (ad_p1 6), .ref (ad_p1 7), .ref (ad_p1 8), .ref (ad_p1 9), .ref (ad_p1 10), .int p1_places, .int p1_steps, .int p1_coloured])), ((ad_p1 5), .inl (cI, 256, .inl p1_closed)), ((ad_p1 7), .inl (cI, 256, .inl p1_gifts)), ((ad_p1 10), .inl (cI, 16, .inl p1_heeds)), ((ad_p1 4), .inl (cI, 256, .inl p1_needs)), ((ad_p1 0), .inl (cI, 16, .inl p1_placeKinds)), ((ad_p1 3), .inl (cI, 256, .inl p1_puts)), ((ad_p1 9), .inl (cI, 16, .inl p1_putsInto)), ((ad_p1 1), .inl (cI, 16, .inl p1_stepKinds)), ((ad_p1 2), .inl (cI, 256, .inl p1_takes)), ((ad_p1 8), .inl (cI, 16, .inl p1_takesFrom)), ((ad_p1 6), .inl (cI, 256, .inl p1_wants))]
abbrev q_X1_follow (dC : Nat → ClassId) (dI : Nat → Nat → Nat) (cI cJ cZ : ClassId) (h_p0 : Nat) (h_p1 : Nat) (ad_p0 : Nat → Nat) (ad_p0_all : Nat → Nat) (ad_p0_from : Nat → Nat) (ad_p0_to : Nat → Nat) (ad_p1 : Nat → Nat) (n_p0_all : Nat) (p0_made : Int32) (p0_turned : Int32) (p0_steps : Int32) (p0_all_width : Int32) (p0_all_size : Int32) (p1_places : Int32) (p1_steps : Int32) (p1_coloured : Int32) (p0_all_by : Nat → Int32) (p0_all_cells : Nat → Int32) (p0_all_former : Nat → Int32) (p0_all_heads : Nat → Int32) (p0_all_links : Nat → Int32) (p0_from_many : Nat → Int32) (p0_from_things : Nat → Int64) (p0_nexts : Nat → Int32) (p0_to_many : Nat → Int32) (p0_to_things : Nat → Int64) (p1_closed : Nat → Int32) (p1_gifts : Nat → Int32) (p1_heeds : Nat → Int32) (p1_needs : Nat → Int32) (p1_placeKinds : Nat → Int32) (p1_puts : Nat → Int32) (p1_putsInto : Nat → Int32) (p1_stepKinds : Nat → Int32) (p1_takes : Nat → Int32) (p1_takesFrom : Nat → Int32) (p1_wants : Nat → Int32) (post : Int32 → (Int32) → (Nat → Int32) → (Nat → Int32) → (Nat → Int32) → (Nat → Int32) → (Nat → Int32) → (Nat → Int32) → (Nat → Int32) → (Nat → Int32) → (Nat → Int64) → Prop) (A : Nat → Prop) : Array Value → State → Outcome → State → Prop := va_Qi (fun r (u : (Int32) × (Nat → Int32) × (Nat → Int32) × (Nat → Int32) × (Nat → Int32) × (Nat → Int32) × (Nat → Int32) × (Nat → Int32) × (Nat → Int32) × (Nat → Int64)) => post r (u.1) (u.2.1) (u.2.2.1) (u.2.2.2.1) (u.2.2.2.2.1) (u.2.2.2.2.2.1) (u.2.2.2.2.2.2.1) (u.2.2.2.2.2.2.2.1) (u.2.2.2.2.2.2.2.2.1) (u.2.2.2.2.2.2.2.2.2)) (fun (u : (Int32) × (Nat → Int32) × (Nat → Int32) × (Nat → Int32) × (Nat → Int32) × (Nat → Int32) × (Nat → Int32) × (Nat → Int32) × (Nat → Int32) × (Nat → Int64)) t => xPost (dC, dI) A (wld_X1_follow cI cJ cZ h_p0 h_p1 ad_p0 ad_p0_all ad_p0_from ad_p0_to ad_p1 n_p0_all p0_made p0_turned p0_steps p0_all_width (u.1) p1_places p1_steps p1_coloured (u.2.1) (u.2.2.1) (u.2.2.2.1) (u.2.2.2.2.1) (u.2.2.2.2.2.1) (u.2.2.2.2.2.2.1) p0_from_things (u.2.2.2.2.2.2.2.1) (u.2.2.2.2.2.2.2.2.1) (u.2.2.2.2.2.2.2.2.2) p1_closed p1_gifts p1_heeds p1_needs p1_placeKinds p1_puts p1_putsInto p1_stepKinds p1_takes p1_takesFrom p1_wants) t) A
def w_X1_follow_L25b (n_p0_all : Nat) (v2 : Int32) (v3 : Int32) (v4 : Int32) (p0_all_width : Int32) (p0_steps : Int32) (p1_places : Int32) (p1_steps : Int32) (p0_from_many : Nat → Int32) (p0_from_things : Nat → Int64) (p1_closed : Nat → Int32) (p1_gifts : Nat → Int32) (p1_heeds : Nat → Int32) (p1_needs : Nat → Int32) (p1_placeKinds : Nat → Int32) (p1_puts : Nat → Int32) (p1_putsInto : Nat → Int32) (p1_stepKinds : Nat → Int32) (p1_takes : Nat → Int32) (p1_takesFrom : Nat → Int32) (p1_wants : Nat → Int32) (post : Int32 → (Int32) → (Nat → Int32) → (Nat → Int32) → (Nat → Int32) → (Nat → Int32) → (Nat → Int32) → (Nat → Int32) → (Nat → Int32) → (Nat → Int32) → (Nat → Int64) → Prop) (K : (Int32) → (Int32) → (Nat → Int32) → (Nat → Int32) → (Nat → Int32) → (Nat → Int32) → (Nat → Int32) → (Nat → Int32) → (Nat → Int32) → (Nat → Int64) → Prop) (rec : (Int32) → (Int32) → (Nat → Int32) → (Nat → Int32) → (Nat → Int32) → (Nat → Int32) → (Nat → Int32) → (Nat → Int32) → (Nat → Int32) → (Nat → Int64) → Prop) (v5 : Int32) (p0_all_size : Int32) (p0_all_by : Nat → Int32) (p0_all_cells : Nat → Int32) (p0_all_former : Nat → Int32) (p0_all_heads : Nat → Int32) (p0_all_links : Nat → Int32) (p0_nexts : Nat → Int32) (p0_to_many : Nat → Int32) (p0_to_things : Nat → Int64) : Prop :=
    (p0_steps ≤ v5 →
      K v5 p0_all_size p0_all_by p0_all_cells p0_all_former p0_all_heads p0_all_links p0_nexts p0_to_many p0_to_things) ∧
    (¬ p0_steps ≤ v5 →
      w_X5_goesWhere p1_places p1_closed p1_heeds p1_needs p1_placeKinds p1_stepKinds p1_takes p1_wants p0_from_many p0_from_things v4 v5 (fun r5 =>
      (r5 = 0 →
        vp_in ((v2 * p0_steps) + v5) 128000 ∧
        ∀ x8 : Int32, x8 = v5 + (1 : Int32) →
        rec x8 p0_all_size p0_all_by p0_all_cells p0_all_former p0_all_heads p0_all_links (upd p0_nexts ((v2 * p0_steps) + v5).toNatClampNeg (-2000000005 : Int32)) p0_to_many p0_to_things) ∧
      (¬ r5 = 0 →
        w_X3_become p0_to_many p0_from_many (fun y9 =>
        w_X5_move p1_places p1_gifts p1_placeKinds p1_puts p1_putsInto p1_takes p1_takesFrom p1_wants y9 p0_to_things v5 (fun y10 y11 =>
        w_X4_indexOf n_p0_all p0_all_size p0_all_width p0_all_cells p0_all_heads p0_all_links y10 (fun r12 =>
        (0 ≤ r12 →
          vp_in ((v2 * p0_steps) + v5) 128000 ∧
          ∀ x15 : Int32, x15 = v5 + (1 : Int32) →
          rec x15 p0_all_size p0_all_by p0_all_cells p0_all_former p0_all_heads p0_all_links (upd p0_nexts ((v2 * p0_steps) + v5).toNatClampNeg r12) y10 y11) ∧
        (¬ 0 ≤ r12 →
          (p0_all_size < v3 →
            w_X4_add n_p0_all p0_all_size p0_all_width p0_all_by p0_all_cells p0_all_former p0_all_heads p0_all_links y10 v2 v5 (fun y18 y19 y20 y21 y22 y23 =>
            vp_in ((v2 * p0_steps) + v5) 128000 ∧
            ∀ x24 : Int32, x24 = v5 + (1 : Int32) →
            rec x24 y18 y19 y20 y21 y22 y23 (upd p0_nexts ((v2 * p0_steps) + v5).toNatClampNeg p0_all_size) y10 y11)) ∧
          (¬ p0_all_size < v3 →
            (post (0 : Int32) p0_all_size p0_all_by p0_all_cells p0_all_former p0_all_heads p0_all_links p0_from_many p0_nexts y10 y11)))))))))
def w_X1_follow_L25 (n_p0_all : Nat) (v2 : Int32) (v3 : Int32) (v4 : Int32) (p0_all_width : Int32) (p0_steps : Int32) (p1_places : Int32) (p1_steps : Int32) (p0_from_many : Nat → Int32) (p0_from_things : Nat → Int64) (p1_closed : Nat → Int32) (p1_gifts : Nat → Int32) (p1_heeds : Nat → Int32) (p1_needs : Nat → Int32) (p1_placeKinds : Nat → Int32) (p1_puts : Nat → Int32) (p1_putsInto : Nat → Int32) (p1_stepKinds : Nat → Int32) (p1_takes : Nat → Int32) (p1_takesFrom : Nat → Int32) (p1_wants : Nat → Int32) (post : Int32 → (Int32) → (Nat → Int32) → (Nat → Int32) → (Nat → Int32) → (Nat → Int32) → (Nat → Int32) → (Nat → Int32) → (Nat → Int32) → (Nat → Int32) → (Nat → Int64) → Prop) (K : (Int32) → (Int32) → (Nat → Int32) → (Nat → Int32) → (Nat → Int32) → (Nat → Int32) → (Nat → Int32) → (Nat → Int32) → (Nat → Int32) → (Nat → Int64) → Prop) : Nat → (Int32) → (Int32) → (Nat → Int32) → (Nat → Int32) → (Nat → Int32) → (Nat → Int32) → (Nat → Int32) → (Nat → Int32) → (Nat → Int32) → (Nat → Int64) → Prop
  | 0, _, _, _, _, _, _, _, _, _, _ => False
  | n + 1, v5, p0_all_size, p0_all_by, p0_all_cells, p0_all_former, p0_all_heads, p0_all_links, p0_nexts, p0_to_many, p0_to_things => w_X1_follow_L25b n_p0_all v2 v3 v4 p0_all_width p0_steps p1_places p1_steps p0_from_many p0_from_things p1_closed p1_gifts p1_heeds p1_needs p1_placeKinds p1_puts p1_putsInto p1_stepKinds p1_takes p1_takesFrom p1_wants post K (w_X1_follow_L25 n_p0_all v2 v3 v4 p0_all_width p0_steps p1_places p1_steps p0_from_many p0_from_things p1_closed p1_gifts p1_heeds p1_needs p1_placeKinds p1_puts p1_putsInto p1_stepKinds p1_takes p1_takesFrom p1_wants post K n) v5 p0_all_size p0_all_by p0_all_cells p0_all_former p0_all_heads p0_all_links p0_nexts p0_to_many p0_to_things
def w_X1_follow (n_p0_all : Nat) (p0_all_size : Int32) (p0_all_width : Int32) (p0_steps : Int32) (p1_places : Int32) (p1_steps : Int32) (p0_all_by : Nat → Int32) (p0_all_cells : Nat → Int32) (p0_all_former : Nat → Int32) (p0_all_heads : Nat → Int32) (p0_all_links : Nat → Int32) (p0_from_many : Nat → Int32) (p0_from_things : Nat → Int64) (p0_nexts : Nat → Int32) (p0_to_many : Nat → Int32) (p0_to_things : Nat → Int64) (p1_closed : Nat → Int32) (p1_gifts : Nat → Int32) (p1_heeds : Nat → Int32) (p1_needs : Nat → Int32) (p1_placeKinds : Nat → Int32) (p1_puts : Nat → Int32) (p1_putsInto : Nat → Int32) (p1_stepKinds : Nat → Int32) (p1_takes : Nat → Int32) (p1_takesFrom : Nat → Int32) (p1_wants : Nat → Int32) (a2 : Int32) (a3 : Int32) (post : Int32 → (Int32) → (Nat → Int32) → (Nat → Int32) → (Nat → Int32) → (Nat → Int32) → (Nat → Int32) → (Nat → Int32) → (Nat → Int32) → (Nat → Int32) → (Nat → Int64) → Prop) : Prop :=
  w_X4_load n_p0_all p0_all_width p0_all_cells p0_from_many a2 (fun y1 =>
  w_X5_urges p1_places p1_steps p1_closed p1_heeds p1_needs p1_placeKinds p1_stepKinds p1_takes p1_wants y1 p0_from_things (fun r2 =>
  ∃ n : Nat, w_X1_follow_L25 n_p0_all a2 a3 r2 p0_all_width p0_steps p1_places p1_steps y1 p0_from_things p1_closed p1_gifts p1_heeds p1_needs p1_placeKinds p1_puts p1_putsInto p1_stepKinds p1_takes p1_takesFrom p1_wants post (fun v26 s27 s28 s29 s30 s31 s32 s33 s34 s35 =>
      (post (1 : Int32) s27 s28 s29 s30 s31 s32 y1 s33 s34 s35)) n (0 : Int32) p0_all_size p0_all_by p0_all_cells p0_all_former p0_all_heads p0_all_links p0_nexts p0_to_many p0_to_things))
set_option maxHeartbeats 4000000 in
set_option maxRecDepth 100000 in
theorem c_X1_follow_L25 {p : Program} {l : Launch} {e : Env} {s : State} {m : MethodId} {args : Array Value} {below : List Frame} {meth : Method} {c : Code} {dC : Nat → ClassId} {dI : Nat → Nat → Nat} {A : Nat → Prop} {cI cJ cZ : ClassId} {h_p0 : Nat} {h_p1 : Nat} {ad_p0 : Nat → Nat} {ad_p0_all : Nat → Nat} {ad_p0_from : Nat → Nat} {ad_p0_to : Nat → Nat} {ad_p1 : Nat → Nat} {n_p0_all : Nat} {p0_made : Int32} {p0_turned : Int32} {p0_steps : Int32} {p0_all_width : Int32} {p1_places : Int32} {p1_steps : Int32} {p1_coloured : Int32} {p0_from_many : Nat → Int32} {p0_from_things : Nat → Int64} {p1_closed : Nat → Int32} {p1_gifts : Nat → Int32} {p1_heeds : Nat → Int32} {p1_needs : Nat → Int32} {p1_placeKinds : Nat → Int32} {p1_puts : Nat → Int32} {p1_putsInto : Nat → Int32} {p1_stepKinds : Nat → Int32} {p1_takes : Nat → Int32} {p1_takesFrom : Nat → Int32} {p1_wants : Nat → Int32} {v2 : Int32} {v3 : Int32} {v4 : Int32} {z_p0_all_size : Int32} {z_p0_all_by : Nat → Int32} {z_p0_all_cells : Nat → Int32} {z_p0_all_former : Nat → Int32} {z_p0_all_heads : Nat → Int32} {z_p0_all_links : Nat → Int32} {z_p0_nexts : Nat → Int32} {z_p0_to_many : Nat → Int32} {z_p0_to_things : Nat → Int64} {post : Int32 → (Int32) → (Nat → Int32) → (Nat → Int32) → (Nat → Int32) → (Nat → Int32) → (Nat → Int32) → (Nat → Int32) → (Nat → Int32) → (Nat → Int32) → (Nat → Int64) → Prop} {K : (Int32) → (Int32) → (Nat → Int32) → (Nat → Int32) → (Nat → Int32) → (Nat → Int32) → (Nat → Int32) → (Nat → Int32) → (Nat → Int32) → (Nat → Int64) → Prop} (E0 : xEnv p s m args meth c cX1_follow (some .boolean) 7 RX1 wsX1_follow (dC, dI) cI cJ cZ A) (hk : ∀ (v5 : Int32) (p0_all_size : Int32) (p0_all_by : Nat → Int32) (p0_all_cells : Nat → Int32) (p0_all_former : Nat → Int32) (p0_all_heads : Nat → Int32) (p0_all_links : Nat → Int32) (p0_nexts : Nat → Int32) (p0_to_many : Nat → Int32) (p0_to_things : Nat → Int64) (H : Heap) (locs : List Loc) (ls : Array Slot), K v5 p0_all_size p0_all_by p0_all_cells p0_all_former p0_all_heads p0_all_links p0_nexts p0_to_many p0_to_things → va_P (dC, dI) vwCl (wld_X1_follow cI cJ cZ h_p0 h_p1 ad_p0 ad_p0_all ad_p0_from ad_p0_to ad_p1 n_p0_all p0_made p0_turned p0_steps p0_all_width p0_all_size p1_places p1_steps p1_coloured p0_all_by p0_all_cells p0_all_former p0_all_heads p0_all_links p0_from_many p0_from_things p0_nexts p0_to_many p0_to_things p1_closed p1_gifts p1_heeds p1_needs p1_placeKinds p1_puts p1_putsInto p1_stepKinds p1_takes p1_takesFrom p1_wants) H → va_D A (wld_X1_follow cI cJ cZ h_p0 h_p1 ad_p0 ad_p0_all ad_p0_from ad_p0_to ad_p1 n_p0_all p0_made p0_turned p0_steps p0_all_width p0_all_size p1_places p1_steps p1_coloured p0_all_by p0_all_cells p0_all_former p0_all_heads p0_all_links p0_from_many p0_from_things p0_nexts p0_to_many p0_to_things p1_closed p1_gifts p1_heeds p1_needs p1_placeKinds p1_puts p1_putsInto p1_stepKinds p1_takes p1_takesFrom p1_wants) → va_S A s.heap H locs → lv_has ls 7 [] → W p l e ({ frames := 4, cells := 0, slots := 0, locals := 98 }) s m args below meth c H locs 0 0 (MQ below (q_X1_follow dC dI cI cJ cZ h_p0 h_p1 ad_p0 ad_p0_all ad_p0_from ad_p0_to ad_p1 n_p0_all p0_made p0_turned p0_steps p0_all_width z_p0_all_size p1_places p1_steps p1_coloured z_p0_all_by z_p0_all_cells z_p0_all_former z_p0_all_heads z_p0_all_links p0_from_many p0_from_things z_p0_nexts z_p0_to_many z_p0_to_things p1_closed p1_gifts p1_heeds p1_needs p1_placeKinds p1_puts p1_putsInto p1_stepKinds p1_takes p1_takesFrom p1_wants post A) args s 0 0 A) (F0 m 150 ls [])) : ∀ (n : Nat) (v5 : Int32) (p0_all_size : Int32) (p0_all_by : Nat → Int32) (p0_all_cells : Nat → Int32) (p0_all_former : Nat → Int32) (p0_all_heads : Nat → Int32) (p0_all_links : Nat → Int32) (p0_nexts : Nat → Int32) (p0_to_many : Nat → Int32) (p0_to_things : Nat → Int64), w_X1_follow_L25 n_p0_all v2 v3 v4 p0_all_width p0_steps p1_places p1_steps p0_from_many p0_from_things p1_closed p1_gifts p1_heeds p1_needs p1_placeKinds p1_puts p1_putsInto p1_stepKinds p1_takes p1_takesFrom p1_wants post K n v5 p0_all_size p0_all_by p0_all_cells p0_all_former p0_all_heads p0_all_links p0_nexts p0_to_many p0_to_things → ∀ (H : Heap) (locs : List Loc) (ls : Array Slot), va_P (dC, dI) vwCl (wld_X1_follow cI cJ cZ h_p0 h_p1 ad_p0 ad_p0_all ad_p0_from ad_p0_to ad_p1 n_p0_all p0_made p0_turned p0_steps p0_all_width p0_all_size p1_places p1_steps p1_coloured p0_all_by p0_all_cells p0_all_former p0_all_heads p0_all_links p0_from_many p0_from_things p0_nexts p0_to_many p0_to_things p1_closed p1_gifts p1_heeds p1_needs p1_placeKinds p1_puts p1_putsInto p1_stepKinds p1_takes p1_takesFrom p1_wants) H → va_D A (wld_X1_follow cI cJ cZ h_p0 h_p1 ad_p0 ad_p0_all ad_p0_from ad_p0_to ad_p1 n_p0_all p0_made p0_turned p0_steps p0_all_width p0_all_size p1_places p1_steps p1_coloured p0_all_by p0_all_cells p0_all_former p0_all_heads p0_all_links p0_from_many p0_from_things p0_nexts p0_to_many p0_to_things p1_closed p1_gifts p1_heeds p1_needs p1_placeKinds p1_puts p1_putsInto p1_stepKinds p1_takes p1_takesFrom p1_wants) → va_S A s.heap H locs → lv_has ls 7 [(0, .ref h_p0), (1, .ref h_p1), (2, .int v2), (3, .int v3), (4, .int v4), (5, .int v5)] → W p l e ({ frames := 4, cells := 0, slots := 0, locals := 98 }) s m args below meth c H locs 0 0 (MQ below (q_X1_follow dC dI cI cJ cZ h_p0 h_p1 ad_p0 ad_p0_all ad_p0_from ad_p0_to ad_p1 n_p0_all p0_made p0_turned p0_steps p0_all_width z_p0_all_size p1_places p1_steps p1_coloured z_p0_all_by z_p0_all_cells z_p0_all_former z_p0_all_heads z_p0_all_links p0_from_many p0_from_things z_p0_nexts z_p0_to_many z_p0_to_things p1_closed p1_gifts p1_heeds p1_needs p1_placeKinds p1_puts p1_putsInto p1_stepKinds p1_takes p1_takesFrom p1_wants post A) args s 0 0 A) (F0 m 25 ls []) := by
  obtain ⟨hx, hb, hr, hml, hown, hts, hlocks, hK, hA, n1, n2⟩ := id E0
  have iX1 : ∀ w ∈ u_ws RX1 TX1 11, w ∈ wsX1_follow := fun w h => List.mem_cons_of_mem _ (List.mem_append_left _ (List.mem_append_left _ (List.mem_append_left _ (List.mem_append_right _ h))))
  have iX3 : ∀ w ∈ u_ws RX3 TX3 2, w ∈ wsX1_follow := fun w h => List.mem_cons_of_mem _ (List.mem_append_left _ (List.mem_append_right _ h))
  have iX4 : ∀ w ∈ u_ws RX4 TX4 7, w ∈ wsX1_follow := fun w h => List.mem_cons_of_mem _ (List.mem_append_left _ (List.mem_append_left _ (List.mem_append_right _ h)))
  have iX5 : ∀ w ∈ u_ws RX5 TX5 14, w ∈ wsX1_follow := fun w h => List.mem_cons_of_mem _ (List.mem_append_right _ h)
  intro n
  induction n with
  | zero => intro v5 p0_all_size p0_all_by p0_all_cells p0_all_former p0_all_heads p0_all_links p0_nexts p0_to_many p0_to_things hw; exact hw.elim
  | succ n ih =>
    intro v5 p0_all_size p0_all_by p0_all_cells p0_all_former p0_all_heads p0_all_links p0_nexts p0_to_many p0_to_things hw H locs ls hP hD hS hl
    have hw : w_X1_follow_L25b n_p0_all v2 v3 v4 p0_all_width p0_steps p1_places p1_steps p0_from_many p0_from_things p1_closed p1_gifts p1_heeds p1_needs p1_placeKinds p1_puts p1_putsInto p1_stepKinds p1_takes p1_takesFrom p1_wants post K (w_X1_follow_L25 n_p0_all v2 v3 v4 p0_all_width p0_steps p1_places p1_steps p0_from_many p0_from_things p1_closed p1_gifts p1_heeds p1_needs p1_placeKinds p1_puts p1_putsInto p1_stepKinds p1_takes p1_takesFrom p1_wants post K n) v5 p0_all_size p0_all_by p0_all_cells p0_all_former p0_all_heads p0_all_links p0_nexts p0_to_many p0_to_things := hw
    unfold w_X1_follow_L25b at hw
    refine lv_iload hx hb dX1_follow_25 (lv_at hl 5 rfl) ?_
    refine lv_aload_n hx hb dX1_follow_27 rfl (lv_at hl 0 rfl) ?_
    refine va_get (D := (dC, dI)) (ci := 1) (v := .int p0_steps) (C := RX1) (T := TX1) (N := 11) hx hb hts iX1 hown hK hP 0 rfl rfl 10 (by decide) (hts (.fieldLink RX1 54 "NetHouse$Field" "steps" "I") (by decide +kernel)) (fun _ h9 => h9) rfl dX1_follow_28 ?_
    refine lv_icmp_ge (tgt := 150) hx hb dX1_follow_31 (by decide) (fun c3 => ?_) (fun c4 => ?_)
    · have hw := hw.1 c3
      exact hk _ _ _ _ _ _ _ _ _ _ _ _ _ hw hP hD hS (lv_sub hl [] rfl)
    · have hw := hw.2 c4
      refine lv_ldc (v := -2000000005) hx hb hown (hts (.constant RX1 72 (-2000000005)) (by decide +kernel)) dX1_follow_34 ?_
      refine lv_istore (lv' := [(6, .int (-2000000005 : Int32)), (0, .ref h_p0), (1, .ref h_p1), (2, .int v2), (3, .int v3), (4, .int v4), (5, .int v5)]) hx hb dX1_follow_36 hl (by decide) rfl (fun ls hl => ?_)
      refine lv_aload_n hx hb dX1_follow_38 rfl (lv_at hl 2 rfl) ?_
      refine lv_iload hx hb dX1_follow_39 (lv_at hl 5 rfl) ?_
      refine lv_aload_n hx hb dX1_follow_41 rfl (lv_at hl 1 rfl) ?_
      refine va_get (D := (dC, dI)) (ci := 1) (v := .ref (ad_p0 1)) (C := RX1) (T := TX1) (N := 11) hx hb hts iX1 hown hK hP 0 rfl rfl 1 (by decide) (hts (.fieldLink RX1 23 "NetHouse$Field" "from" "LNetHouse$Holding;") (by decide +kernel)) (fun _ h9 => h9) rfl dX1_follow_42 ?_
      refine lv_iload hx hb dX1_follow_45 (lv_at hl 6 rfl) ?_
      obtain ⟨hPc, hDc⟩ := x_sub (wc := (wld_X5_goesWhere cI cJ cZ h_p1 (ad_p0 1) ad_p1 ad_p0_from p1_places p1_steps p1_coloured p1_closed p1_heeds p1_needs p1_placeKinds p1_stepKinds p1_takes p1_wants p0_from_many p0_from_things)) hP hD [14, 15, 17, 18, 19, 22, 23, 25, 7, 8, 9] (n := 26) rfl rfl (by decide +kernel)
      refine x_calli (ws' := fun (u : Unit) => (wld_X1_follow cI cJ cZ h_p0 h_p1 ad_p0 ad_p0_all ad_p0_from ad_p0_to ad_p1 n_p0_all p0_made p0_turned p0_steps p0_all_width p0_all_size p1_places p1_steps p1_coloured p0_all_by p0_all_cells p0_all_former p0_all_heads p0_all_links p0_from_many p0_from_things p0_nexts p0_to_many p0_to_things p1_closed p1_gifts p1_heeds p1_needs p1_placeKinds p1_puts p1_putsInto p1_stepKinds p1_takes p1_takesFrom p1_wants)) hP hD hS hA [14, 15, 17, 18, 19, 22, 23, 25, 7, 8, 9] [0, 1, 2, 3, 4, 5, 6, 10, 11, 12, 13, 16, 20, 21, 24] [0, 1, 2, 3, 4, 5, 6, 23, 24, 25, 7, 8, 9, 10, 15, 16, 11, 17, 18, 19, 12, 13, 20, 21, 14, 22] (n := 26) (k := 11) rfl (fun _ => rfl) rfl (by decide +kernel) (fun _ => rfl) (va_runV (As := [.int v4, .ref (ad_p0 1), .int v5]) (rest := []) ⟨hx, hb, hml, hown, hts⟩ (c_X5_goesWhere (l := l) (dC := dC) (dI := dI) (cI := cI) (cJ := cJ) (cZ := cZ) (sz := H.size) (h_p0 := h_p1) (h_p2 := (ad_p0 1)) (ad_p0 := ad_p1) (ad_p2 := ad_p0_from) (p0_places := p1_places) (p0_steps := p1_steps) (p0_coloured := p1_coloured) (p0_closed := p1_closed) (p0_heeds := p1_heeds) (p0_needs := p1_needs) (p0_placeKinds := p1_placeKinds) (p0_stepKinds := p1_stepKinds) (p0_takes := p1_takes) (p0_wants := p1_wants) (p2_many := p0_from_many) (p2_things := p0_from_things) hw) (cwV 3 hts gX1_follow_X5_goesWhere rfl rfl rfl (by decide +kernel) ⟨Nat.le_of_ble_eq_true rfl, Nat.le_of_ble_eq_true rfl⟩) ⟨xPre_blind, va_recv hK hP (ci := 5) (q0 := 14) rfl rfl, xPre_at hK hPc hDc n1 n2⟩ rfl rfl hl.1 rfl (lv_room (Nat.le_of_ble_eq_true rfl)) dX1_follow_47 ⟨Nat.zero_le _, Nat.zero_le _⟩) (fun r5 u H locs hw hP hD hS => ?_)
      try dsimp only at hw
      have hP : va_P (dC, dI) vwCl (wld_X1_follow cI cJ cZ h_p0 h_p1 ad_p0 ad_p0_all ad_p0_from ad_p0_to ad_p1 n_p0_all p0_made p0_turned p0_steps p0_all_width p0_all_size p1_places p1_steps p1_coloured p0_all_by p0_all_cells p0_all_former p0_all_heads p0_all_links p0_from_many p0_from_things p0_nexts p0_to_many p0_to_things p1_closed p1_gifts p1_heeds p1_needs p1_placeKinds p1_puts p1_putsInto p1_stepKinds p1_takes p1_takesFrom p1_wants) H := hP
      have hD : va_D A (wld_X1_follow cI cJ cZ h_p0 h_p1 ad_p0 ad_p0_all ad_p0_from ad_p0_to ad_p1 n_p0_all p0_made p0_turned p0_steps p0_all_width p0_all_size p1_places p1_steps p1_coloured p0_all_by p0_all_cells p0_all_former p0_all_heads p0_all_links p0_from_many p0_from_things p0_nexts p0_to_many p0_to_things p1_closed p1_gifts p1_heeds p1_needs p1_placeKinds p1_puts p1_putsInto p1_stepKinds p1_takes p1_takesFrom p1_wants) := hD
      refine lv_if_eq (tgt := 128) hx hb dX1_follow_50 (by decide) (fun c6 => ?_) (fun c7 => ?_)
      · have hw := hw.1 c6
        refine lv_aload_n hx hb dX1_follow_128 rfl (lv_at hl 1 rfl) ?_
        refine va_get (D := (dC, dI)) (ci := 1) (v := .ref (ad_p0 3)) (C := RX1) (T := TX1) (N := 11) hx hb hts iX1 hown hK hP 0 rfl rfl 3 (by decide) (hts (.fieldLink RX1 31 "NetHouse$Field" "nexts" "[I") (by decide +kernel)) (fun _ h9 => h9) rfl dX1_follow_129 ?_
        refine lv_iload_n hx hb dX1_follow_132 rfl (lv_at hl 3 rfl) ?_
        refine lv_aload_n hx hb dX1_follow_133 rfl (lv_at hl 1 rfl) ?_
        refine va_get (D := (dC, dI)) (ci := 1) (v := .int p0_steps) (C := RX1) (T := TX1) (N := 11) hx hb hts iX1 hown hK hP 0 rfl rfl 10 (by decide) (hts (.fieldLink RX1 54 "NetHouse$Field" "steps" "I") (by decide +kernel)) (fun _ h9 => h9) rfl dX1_follow_134 ?_
        refine lv_imul hx hb dX1_follow_137 ?_
        refine lv_iload hx hb dX1_follow_138 (lv_at hl 6 rfl) ?_
        refine lv_iadd hx hb dX1_follow_140 ?_
        refine lv_iload hx hb dX1_follow_141 (lv_at hl 0 rfl) ?_
        refine va_iast hx hb hK hP hD hS 10 0 rfl rfl hw.1 dX1_follow_143 (fun H locs hP hD hS => ?_)
        have hw := hw.2
        have hP : va_P (dC, dI) vwCl (wld_X1_follow cI cJ cZ h_p0 h_p1 ad_p0 ad_p0_all ad_p0_from ad_p0_to ad_p1 n_p0_all p0_made p0_turned p0_steps p0_all_width p0_all_size p1_places p1_steps p1_coloured p0_all_by p0_all_cells p0_all_former p0_all_heads p0_all_links p0_from_many p0_from_things (upd p0_nexts ((v2 * p0_steps) + v5).toNatClampNeg (-2000000005 : Int32)) p0_to_many p0_to_things p1_closed p1_gifts p1_heeds p1_needs p1_placeKinds p1_puts p1_putsInto p1_stepKinds p1_takes p1_takesFrom p1_wants) H := hP
        have hD : va_D A (wld_X1_follow cI cJ cZ h_p0 h_p1 ad_p0 ad_p0_all ad_p0_from ad_p0_to ad_p1 n_p0_all p0_made p0_turned p0_steps p0_all_width p0_all_size p1_places p1_steps p1_coloured p0_all_by p0_all_cells p0_all_former p0_all_heads p0_all_links p0_from_many p0_from_things (upd p0_nexts ((v2 * p0_steps) + v5).toNatClampNeg (-2000000005 : Int32)) p0_to_many p0_to_things p1_closed p1_gifts p1_heeds p1_needs p1_placeKinds p1_puts p1_putsInto p1_stepKinds p1_takes p1_takesFrom p1_wants) := hD
        obtain ⟨x8, ex8⟩ : ∃ y : Int32, y = v5 + (1 : Int32) := ⟨_, rfl⟩
        have hw := hw x8 ex8
        refine lv_iinc (v := x8) (lv' := [(5, .int x8), (6, .int (-2000000005 : Int32)), (0, .ref h_p0), (1, .ref h_p1), (2, .int v2), (3, .int v3), (4, .int v4)]) hx hb dX1_follow_144 hl (k := 6) rfl (by rw [ex8]; rfl) (by decide) rfl (fun ls hl => ?_)
        refine lv_goto (tgt := 25) hx hb dX1_follow_147 (by decide) ?_
        exact ih _ _ _ _ _ _ _ _ _ _ hw _ _ _ hP hD hS (lv_sub hl [2, 3, 4, 5, 6, 0] rfl)
      · have hw := hw.2 c7
        refine lv_aload_n hx hb dX1_follow_53 rfl (lv_at hl 1 rfl) ?_
        refine va_get (D := (dC, dI)) (ci := 1) (v := .ref (ad_p0 2)) (C := RX1) (T := TX1) (N := 11) hx hb hts iX1 hown hK hP 0 rfl rfl 2 (by decide) (hts (.fieldLink RX1 27 "NetHouse$Field" "to" "LNetHouse$Holding;") (by decide +kernel)) (fun _ h9 => h9) rfl dX1_follow_54 ?_
        refine lv_aload_n hx hb dX1_follow_57 rfl (lv_at hl 1 rfl) ?_
        refine va_get (D := (dC, dI)) (ci := 1) (v := .ref (ad_p0 1)) (C := RX1) (T := TX1) (N := 11) hx hb hts iX1 hown hK hP 0 rfl rfl 1 (by decide) (hts (.fieldLink RX1 23 "NetHouse$Field" "from" "LNetHouse$Holding;") (by decide +kernel)) (fun _ h9 => h9) rfl dX1_follow_58 ?_
        obtain ⟨hPc, hDc⟩ := x_sub (wc := (wld_X3_become cI cJ cZ (ad_p0 2) (ad_p0 1) ad_p0_to ad_p0_from p0_to_many p0_from_many)) hP hD [11, 12, 7, 8] (n := 26) rfl rfl (by decide +kernel)
        refine x_callv (ws' := fun (u : (Nat → Int32)) => (wld_X1_follow cI cJ cZ h_p0 h_p1 ad_p0 ad_p0_all ad_p0_from ad_p0_to ad_p1 n_p0_all p0_made p0_turned p0_steps p0_all_width p0_all_size p1_places p1_steps p1_coloured p0_all_by p0_all_cells p0_all_former p0_all_heads p0_all_links p0_from_many p0_from_things p0_nexts u p0_to_things p1_closed p1_gifts p1_heeds p1_needs p1_placeKinds p1_puts p1_putsInto p1_stepKinds p1_takes p1_takesFrom p1_wants)) hP hD hS hA [11, 12, 7, 8] [0, 1, 2, 3, 4, 5, 6, 9, 10, 13, 14, 15, 16, 17, 18, 19, 20, 21, 22, 23, 24, 25] [0, 1, 2, 3, 4, 5, 6, 24, 25, 7, 8, 22, 23, 9, 10, 11, 12, 13, 14, 15, 16, 17, 18, 19, 20, 21] (n := 26) (k := 4) rfl (fun _ => rfl) rfl (by decide +kernel) (fun _ => rfl) (va_runV (As := [.ref (ad_p0 1)]) (rest := []) ⟨hx, hb, hml, hown, hts⟩ (c_X3_become (l := l) (dC := dC) (dI := dI) (cI := cI) (cJ := cJ) (cZ := cZ) (sz := H.size) (h_p0 := (ad_p0 2)) (h_p1 := (ad_p0 1)) (ad_p0 := ad_p0_to) (ad_p1 := ad_p0_from) (p0_many := p0_to_many) (p1_many := p0_from_many) hw) (cwV 1 hts gX1_follow_X3_become rfl rfl rfl (by decide +kernel) ⟨Nat.le_of_ble_eq_true rfl, Nat.le_of_ble_eq_true rfl⟩) ⟨xPre_blind, va_recv hK hP (ci := 3) (q0 := 11) rfl rfl, xPre_at hK hPc hDc n1 n2⟩ rfl rfl hl.1 rfl (lv_room (Nat.le_of_ble_eq_true rfl)) dX1_follow_61 ⟨Nat.zero_le _, Nat.zero_le _⟩) (fun u H locs hw hP hD hS => ?_)
        obtain ⟨y9, rfl⟩ : ∃ z, z = u := ⟨_, rfl⟩
        try dsimp only at hw
        have hP : va_P (dC, dI) vwCl (wld_X1_follow cI cJ cZ h_p0 h_p1 ad_p0 ad_p0_all ad_p0_from ad_p0_to ad_p1 n_p0_all p0_made p0_turned p0_steps p0_all_width p0_all_size p1_places p1_steps p1_coloured p0_all_by p0_all_cells p0_all_former p0_all_heads p0_all_links p0_from_many p0_from_things p0_nexts y9 p0_to_things p1_closed p1_gifts p1_heeds p1_needs p1_placeKinds p1_puts p1_putsInto p1_stepKinds p1_takes p1_takesFrom p1_wants) H := hP
        have hD : va_D A (wld_X1_follow cI cJ cZ h_p0 h_p1 ad_p0 ad_p0_all ad_p0_from ad_p0_to ad_p1 n_p0_all p0_made p0_turned p0_steps p0_all_width p0_all_size p1_places p1_steps p1_coloured p0_all_by p0_all_cells p0_all_former p0_all_heads p0_all_links p0_from_many p0_from_things p0_nexts y9 p0_to_things p1_closed p1_gifts p1_heeds p1_needs p1_placeKinds p1_puts p1_putsInto p1_stepKinds p1_takes p1_takesFrom p1_wants) := hD
        refine lv_aload_n hx hb dX1_follow_64 rfl (lv_at hl 2 rfl) ?_
        refine lv_aload_n hx hb dX1_follow_65 rfl (lv_at hl 1 rfl) ?_
        refine va_get (D := (dC, dI)) (ci := 1) (v := .ref (ad_p0 2)) (C := RX1) (T := TX1) (N := 11) hx hb hts iX1 hown hK hP 0 rfl rfl 2 (by decide) (hts (.fieldLink RX1 27 "NetHouse$Field" "to" "LNetHouse$Holding;") (by decide +kernel)) (fun _ h9 => h9) rfl dX1_follow_66 ?_
        refine lv_iload hx hb dX1_follow_69 (lv_at hl 6 rfl) ?_
        obtain ⟨hPc, hDc⟩ := x_sub (wc := (wld_X5_move cI cJ cZ h_p1 (ad_p0 2) ad_p1 ad_p0_to p1_places p1_steps p1_coloured p1_gifts p1_placeKinds p1_puts p1_putsInto p1_takes p1_takesFrom p1_wants y9 p0_to_things)) hP hD [14, 16, 19, 20, 21, 23, 24, 25, 11, 12, 13] (n := 26) rfl rfl (by decide +kernel)
        refine x_callv (ws' := fun (u : (Nat → Int32) × (Nat → Int64)) => (wld_X1_follow cI cJ cZ h_p0 h_p1 ad_p0 ad_p0_all ad_p0_from ad_p0_to ad_p1 n_p0_all p0_made p0_turned p0_steps p0_all_width p0_all_size p1_places p1_steps p1_coloured p0_all_by p0_all_cells p0_all_former p0_all_heads p0_all_links p0_from_many p0_from_things p0_nexts (u.1) (u.2) p1_closed p1_gifts p1_heeds p1_needs p1_placeKinds p1_puts p1_putsInto p1_stepKinds p1_takes p1_takesFrom p1_wants)) hP hD hS hA [14, 16, 19, 20, 21, 23, 24, 25, 11, 12, 13] [0, 1, 2, 3, 4, 5, 6, 7, 8, 9, 10, 15, 17, 18, 22] [0, 1, 2, 3, 4, 5, 6, 7, 8, 9, 10, 23, 24, 25, 15, 11, 16, 12, 13, 17, 18, 19, 14, 20, 21, 22] (n := 26) (k := 11) rfl (fun _ => rfl) rfl (by decide +kernel) (fun _ => rfl) (va_runV (As := [.ref (ad_p0 2), .int v5]) (rest := []) ⟨hx, hb, hml, hown, hts⟩ (c_X5_move (l := l) (dC := dC) (dI := dI) (cI := cI) (cJ := cJ) (cZ := cZ) (sz := H.size) (h_p0 := h_p1) (h_p1 := (ad_p0 2)) (ad_p0 := ad_p1) (ad_p1 := ad_p0_to) (p0_places := p1_places) (p0_steps := p1_steps) (p0_coloured := p1_coloured) (p0_gifts := p1_gifts) (p0_placeKinds := p1_placeKinds) (p0_puts := p1_puts) (p0_putsInto := p1_putsInto) (p0_takes := p1_takes) (p0_takesFrom := p1_takesFrom) (p0_wants := p1_wants) (p1_many := y9) (p1_things := p0_to_things) hw) (cwV 2 hts gX1_follow_X5_move rfl rfl rfl (by decide +kernel) ⟨Nat.le_of_ble_eq_true rfl, Nat.le_of_ble_eq_true rfl⟩) ⟨xPre_blind, va_recv hK hP (ci := 5) (q0 := 14) rfl rfl, xPre_at hK hPc hDc n1 n2⟩ rfl rfl hl.1 rfl (lv_room (Nat.le_of_ble_eq_true rfl)) dX1_follow_71 ⟨Nat.zero_le _, Nat.zero_le _⟩) (fun u H locs hw hP hD hS => ?_)
        obtain ⟨y10, y11⟩ := u
        try dsimp only at hw
        have hP : va_P (dC, dI) vwCl (wld_X1_follow cI cJ cZ h_p0 h_p1 ad_p0 ad_p0_all ad_p0_from ad_p0_to ad_p1 n_p0_all p0_made p0_turned p0_steps p0_all_width p0_all_size p1_places p1_steps p1_coloured p0_all_by p0_all_cells p0_all_former p0_all_heads p0_all_links p0_from_many p0_from_things p0_nexts y10 y11 p1_closed p1_gifts p1_heeds p1_needs p1_placeKinds p1_puts p1_putsInto p1_stepKinds p1_takes p1_takesFrom p1_wants) H := hP
        have hD : va_D A (wld_X1_follow cI cJ cZ h_p0 h_p1 ad_p0 ad_p0_all ad_p0_from ad_p0_to ad_p1 n_p0_all p0_made p0_turned p0_steps p0_all_width p0_all_size p1_places p1_steps p1_coloured p0_all_by p0_all_cells p0_all_former p0_all_heads p0_all_links p0_from_many p0_from_things p0_nexts y10 y11 p1_closed p1_gifts p1_heeds p1_needs p1_placeKinds p1_puts p1_putsInto p1_stepKinds p1_takes p1_takesFrom p1_wants) := hD
        refine lv_aload_n hx hb dX1_follow_74 rfl (lv_at hl 1 rfl) ?_
        refine va_get (D := (dC, dI)) (ci := 1) (v := .ref (ad_p0 0)) (C := RX1) (T := TX1) (N := 11) hx hb hts iX1 hown hK hP 0 rfl rfl 0 (by decide) (hts (.fieldLink RX1 14 "NetHouse$Field" "all" "LNetHouse$Markings;") (by decide +kernel)) (fun _ h9 => h9) rfl dX1_follow_75 ?_
        refine lv_aload_n hx hb dX1_follow_78 rfl (lv_at hl 1 rfl) ?_
        refine va_get (D := (dC, dI)) (ci := 1) (v := .ref (ad_p0 2)) (C := RX1) (T := TX1) (N := 11) hx hb hts iX1 hown hK hP 0 rfl rfl 2 (by decide) (hts (.fieldLink RX1 27 "NetHouse$Field" "to" "LNetHouse$Holding;") (by decide +kernel)) (fun _ h9 => h9) rfl dX1_follow_79 ?_
        obtain ⟨hPc, hDc⟩ := x_sub (wc := (wld_X4_indexOf cI cJ cZ (ad_p0 0) (ad_p0 2) ad_p0_all ad_p0_to n_p0_all p0_all_width p0_all_size p0_all_cells p0_all_heads p0_all_links y10)) hP hD [1, 3, 5, 6, 11, 12] (n := 26) rfl rfl (by decide +kernel)
        refine x_calli (ws' := fun (u : Unit) => (wld_X1_follow cI cJ cZ h_p0 h_p1 ad_p0 ad_p0_all ad_p0_from ad_p0_to ad_p1 n_p0_all p0_made p0_turned p0_steps p0_all_width p0_all_size p1_places p1_steps p1_coloured p0_all_by p0_all_cells p0_all_former p0_all_heads p0_all_links p0_from_many p0_from_things p0_nexts y10 y11 p1_closed p1_gifts p1_heeds p1_needs p1_placeKinds p1_puts p1_putsInto p1_stepKinds p1_takes p1_takesFrom p1_wants)) hP hD hS hA [1, 3, 5, 6, 11, 12] [0, 2, 4, 7, 8, 9, 10, 13, 14, 15, 16, 17, 18, 19, 20, 21, 22, 23, 24, 25] [0, 20, 1, 21, 2, 22, 23, 3, 4, 5, 6, 24, 25, 7, 8, 9, 10, 11, 12, 13, 14, 15, 16, 17, 18, 19] (n := 26) (k := 6) rfl (fun _ => rfl) rfl (by decide +kernel) (fun _ => rfl) (va_runV (As := [.ref (ad_p0 2)]) (rest := []) ⟨hx, hb, hml, hown, hts⟩ (c_X4_indexOf (l := l) (dC := dC) (dI := dI) (cI := cI) (cJ := cJ) (cZ := cZ) (sz := H.size) (h_p0 := (ad_p0 0)) (h_p1 := (ad_p0 2)) (ad_p0 := ad_p0_all) (ad_p1 := ad_p0_to) (n_p0 := n_p0_all) (p0_width := p0_all_width) (p0_size := p0_all_size) (p0_cells := p0_all_cells) (p0_heads := p0_all_heads) (p0_links := p0_all_links) (p1_many := y10) hw) (cwV 1 hts gX1_follow_X4_indexOf rfl rfl rfl (by decide +kernel) ⟨Nat.le_of_ble_eq_true rfl, Nat.le_of_ble_eq_true rfl⟩) ⟨xPre_blind, va_recv hK hP (ci := 4) (q0 := 1) rfl rfl, xPre_at hK hPc hDc n1 n2⟩ rfl rfl hl.1 rfl (lv_room (Nat.le_of_ble_eq_true rfl)) dX1_follow_82 ⟨Nat.zero_le _, Nat.zero_le _⟩) (fun r12 u H locs hw hP hD hS => ?_)
        try dsimp only at hw
        have hP : va_P (dC, dI) vwCl (wld_X1_follow cI cJ cZ h_p0 h_p1 ad_p0 ad_p0_all ad_p0_from ad_p0_to ad_p1 n_p0_all p0_made p0_turned p0_steps p0_all_width p0_all_size p1_places p1_steps p1_coloured p0_all_by p0_all_cells p0_all_former p0_all_heads p0_all_links p0_from_many p0_from_things p0_nexts y10 y11 p1_closed p1_gifts p1_heeds p1_needs p1_placeKinds p1_puts p1_putsInto p1_stepKinds p1_takes p1_takesFrom p1_wants) H := hP
        have hD : va_D A (wld_X1_follow cI cJ cZ h_p0 h_p1 ad_p0 ad_p0_all ad_p0_from ad_p0_to ad_p1 n_p0_all p0_made p0_turned p0_steps p0_all_width p0_all_size p1_places p1_steps p1_coloured p0_all_by p0_all_cells p0_all_former p0_all_heads p0_all_links p0_from_many p0_from_things p0_nexts y10 y11 p1_closed p1_gifts p1_heeds p1_needs p1_placeKinds p1_puts p1_putsInto p1_stepKinds p1_takes p1_takesFrom p1_wants) := hD
        refine lv_istore (lv' := [(6, .int r12), (0, .ref h_p0), (1, .ref h_p1), (2, .int v2), (3, .int v3), (4, .int v4), (5, .int v5)]) hx hb dX1_follow_85 hl (by decide) rfl (fun ls hl => ?_)
        refine lv_iload hx hb dX1_follow_87 (lv_at hl 0 rfl) ?_
        refine lv_if_ge (tgt := 128) hx hb dX1_follow_89 (by decide) (fun c13 => ?_) (fun c14 => ?_)
        · have hw := hw.1 c13
          refine lv_aload_n hx hb dX1_follow_128 rfl (lv_at hl 1 rfl) ?_
          refine va_get (D := (dC, dI)) (ci := 1) (v := .ref (ad_p0 3)) (C := RX1) (T := TX1) (N := 11) hx hb hts iX1 hown hK hP 0 rfl rfl 3 (by decide) (hts (.fieldLink RX1 31 "NetHouse$Field" "nexts" "[I") (by decide +kernel)) (fun _ h9 => h9) rfl dX1_follow_129 ?_
          refine lv_iload_n hx hb dX1_follow_132 rfl (lv_at hl 3 rfl) ?_
          refine lv_aload_n hx hb dX1_follow_133 rfl (lv_at hl 1 rfl) ?_
          refine va_get (D := (dC, dI)) (ci := 1) (v := .int p0_steps) (C := RX1) (T := TX1) (N := 11) hx hb hts iX1 hown hK hP 0 rfl rfl 10 (by decide) (hts (.fieldLink RX1 54 "NetHouse$Field" "steps" "I") (by decide +kernel)) (fun _ h9 => h9) rfl dX1_follow_134 ?_
          refine lv_imul hx hb dX1_follow_137 ?_
          refine lv_iload hx hb dX1_follow_138 (lv_at hl 6 rfl) ?_
          refine lv_iadd hx hb dX1_follow_140 ?_
          refine lv_iload hx hb dX1_follow_141 (lv_at hl 0 rfl) ?_
          refine va_iast hx hb hK hP hD hS 10 0 rfl rfl hw.1 dX1_follow_143 (fun H locs hP hD hS => ?_)
          have hw := hw.2
          have hP : va_P (dC, dI) vwCl (wld_X1_follow cI cJ cZ h_p0 h_p1 ad_p0 ad_p0_all ad_p0_from ad_p0_to ad_p1 n_p0_all p0_made p0_turned p0_steps p0_all_width p0_all_size p1_places p1_steps p1_coloured p0_all_by p0_all_cells p0_all_former p0_all_heads p0_all_links p0_from_many p0_from_things (upd p0_nexts ((v2 * p0_steps) + v5).toNatClampNeg r12) y10 y11 p1_closed p1_gifts p1_heeds p1_needs p1_placeKinds p1_puts p1_putsInto p1_stepKinds p1_takes p1_takesFrom p1_wants) H := hP
          have hD : va_D A (wld_X1_follow cI cJ cZ h_p0 h_p1 ad_p0 ad_p0_all ad_p0_from ad_p0_to ad_p1 n_p0_all p0_made p0_turned p0_steps p0_all_width p0_all_size p1_places p1_steps p1_coloured p0_all_by p0_all_cells p0_all_former p0_all_heads p0_all_links p0_from_many p0_from_things (upd p0_nexts ((v2 * p0_steps) + v5).toNatClampNeg r12) y10 y11 p1_closed p1_gifts p1_heeds p1_needs p1_placeKinds p1_puts p1_putsInto p1_stepKinds p1_takes p1_takesFrom p1_wants) := hD
          obtain ⟨x15, ex15⟩ : ∃ y : Int32, y = v5 + (1 : Int32) := ⟨_, rfl⟩
          have hw := hw x15 ex15
          refine lv_iinc (v := x15) (lv' := [(5, .int x15), (6, .int r12), (0, .ref h_p0), (1, .ref h_p1), (2, .int v2), (3, .int v3), (4, .int v4)]) hx hb dX1_follow_144 hl (k := 6) rfl (by rw [ex15]; rfl) (by decide) rfl (fun ls hl => ?_)
          refine lv_goto (tgt := 25) hx hb dX1_follow_147 (by decide) ?_
          exact ih _ _ _ _ _ _ _ _ _ _ hw _ _ _ hP hD hS (lv_sub hl [2, 3, 4, 5, 6, 0] rfl)
        · have hw := hw.2 c14
          refine lv_aload_n hx hb dX1_follow_92 rfl (lv_at hl 1 rfl) ?_
          refine va_get (D := (dC, dI)) (ci := 1) (v := .ref (ad_p0 0)) (C := RX1) (T := TX1) (N := 11) hx hb hts iX1 hown hK hP 0 rfl rfl 0 (by decide) (hts (.fieldLink RX1 14 "NetHouse$Field" "all" "LNetHouse$Markings;") (by decide +kernel)) (fun _ h9 => h9) rfl dX1_follow_93 ?_
          refine va_get (D := (dC, dI)) (ci := 4) (v := .int p0_all_size) (C := RX4) (T := TX4) (N := 7) hx hb hts iX4 hown hK hP 1 rfl rfl 6 (by decide) (hts (.fieldLink RX1 59 "NetHouse$Markings" "size" "I") (by decide +kernel)) (fun _ h9 => h9) rfl dX1_follow_96 ?_
          refine lv_iload_n hx hb dX1_follow_99 rfl (lv_at hl 4 rfl) ?_
          refine lv_icmp_lt (tgt := 105) hx hb dX1_follow_100 (by decide) (fun c16 => ?_) (fun c17 => ?_)
          · have hw := hw.1 c16
            refine lv_aload_n hx hb dX1_follow_105 rfl (lv_at hl 1 rfl) ?_
            refine va_get (D := (dC, dI)) (ci := 1) (v := .ref (ad_p0 0)) (C := RX1) (T := TX1) (N := 11) hx hb hts iX1 hown hK hP 0 rfl rfl 0 (by decide) (hts (.fieldLink RX1 14 "NetHouse$Field" "all" "LNetHouse$Markings;") (by decide +kernel)) (fun _ h9 => h9) rfl dX1_follow_106 ?_
            refine va_get (D := (dC, dI)) (ci := 4) (v := .int p0_all_size) (C := RX4) (T := TX4) (N := 7) hx hb hts iX4 hown hK hP 1 rfl rfl 6 (by decide) (hts (.fieldLink RX1 59 "NetHouse$Markings" "size" "I") (by decide +kernel)) (fun _ h9 => h9) rfl dX1_follow_109 ?_
            refine lv_istore (lv' := [(6, .int p0_all_size), (0, .ref h_p0), (1, .ref h_p1), (2, .int v2), (3, .int v3), (4, .int v4), (5, .int v5)]) hx hb dX1_follow_112 hl (by decide) rfl (fun ls hl => ?_)
            refine lv_aload_n hx hb dX1_follow_114 rfl (lv_at hl 1 rfl) ?_
            refine va_get (D := (dC, dI)) (ci := 1) (v := .ref (ad_p0 0)) (C := RX1) (T := TX1) (N := 11) hx hb hts iX1 hown hK hP 0 rfl rfl 0 (by decide) (hts (.fieldLink RX1 14 "NetHouse$Field" "all" "LNetHouse$Markings;") (by decide +kernel)) (fun _ h9 => h9) rfl dX1_follow_115 ?_
            refine lv_aload_n hx hb dX1_follow_118 rfl (lv_at hl 1 rfl) ?_
            refine va_get (D := (dC, dI)) (ci := 1) (v := .ref (ad_p0 2)) (C := RX1) (T := TX1) (N := 11) hx hb hts iX1 hown hK hP 0 rfl rfl 2 (by decide) (hts (.fieldLink RX1 27 "NetHouse$Field" "to" "LNetHouse$Holding;") (by decide +kernel)) (fun _ h9 => h9) rfl dX1_follow_119 ?_
            refine lv_iload_n hx hb dX1_follow_122 rfl (lv_at hl 3 rfl) ?_
            refine lv_iload hx hb dX1_follow_123 (lv_at hl 6 rfl) ?_
            obtain ⟨hPc, hDc⟩ := x_sub (wc := (wld_X4_add cI cJ cZ (ad_p0 0) (ad_p0 2) ad_p0_all ad_p0_to n_p0_all p0_all_width p0_all_size p0_all_by p0_all_cells p0_all_former p0_all_heads p0_all_links y10)) hP hD [1, 2, 3, 4, 5, 6, 11, 12] (n := 26) rfl rfl (by decide +kernel)
            refine x_callv (ws' := fun (u : (Int32) × (Nat → Int32) × (Nat → Int32) × (Nat → Int32) × (Nat → Int32) × (Nat → Int32)) => (wld_X1_follow cI cJ cZ h_p0 h_p1 ad_p0 ad_p0_all ad_p0_from ad_p0_to ad_p1 n_p0_all p0_made p0_turned p0_steps p0_all_width (u.1) p1_places p1_steps p1_coloured (u.2.1) (u.2.2.1) (u.2.2.2.1) (u.2.2.2.2.1) (u.2.2.2.2.2) p0_from_many p0_from_things p0_nexts y10 y11 p1_closed p1_gifts p1_heeds p1_needs p1_placeKinds p1_puts p1_putsInto p1_stepKinds p1_takes p1_takesFrom p1_wants)) hP hD hS hA [1, 2, 3, 4, 5, 6, 11, 12] [0, 7, 8, 9, 10, 13, 14, 15, 16, 17, 18, 19, 20, 21, 22, 23, 24, 25] [0, 18, 19, 20, 21, 22, 23, 1, 2, 3, 4, 24, 25, 5, 6, 7, 8, 9, 10, 11, 12, 13, 14, 15, 16, 17] (n := 26) (k := 8) rfl (fun _ => rfl) rfl (by decide +kernel) (fun _ => rfl) (va_runV (As := [.ref (ad_p0 2), .int v2, .int v5]) (rest := []) ⟨hx, hb, hml, hown, hts⟩ (c_X4_add (l := l) (dC := dC) (dI := dI) (cI := cI) (cJ := cJ) (cZ := cZ) (sz := H.size) (h_p0 := (ad_p0 0)) (h_p1 := (ad_p0 2)) (ad_p0 := ad_p0_all) (ad_p1 := ad_p0_to) (n_p0 := n_p0_all) (p0_width := p0_all_width) (p0_size := p0_all_size) (p0_by := p0_all_by) (p0_cells := p0_all_cells) (p0_former := p0_all_former) (p0_heads := p0_all_heads) (p0_links := p0_all_links) (p1_many := y10) hw) (cwV 3 hts gX1_follow_X4_add rfl rfl rfl (by decide +kernel) ⟨Nat.le_of_ble_eq_true rfl, Nat.le_of_ble_eq_true rfl⟩) ⟨xPre_blind, va_recv hK hP (ci := 4) (q0 := 1) rfl rfl, xPre_at hK hPc hDc n1 n2⟩ rfl rfl hl.1 rfl (lv_room (Nat.le_of_ble_eq_true rfl)) dX1_follow_125 ⟨Nat.zero_le _, Nat.zero_le _⟩) (fun u H locs hw hP hD hS => ?_)
            obtain ⟨y18, y19, y20, y21, y22, y23⟩ := u
            try dsimp only at hw
            have hP : va_P (dC, dI) vwCl (wld_X1_follow cI cJ cZ h_p0 h_p1 ad_p0 ad_p0_all ad_p0_from ad_p0_to ad_p1 n_p0_all p0_made p0_turned p0_steps p0_all_width y18 p1_places p1_steps p1_coloured y19 y20 y21 y22 y23 p0_from_many p0_from_things p0_nexts y10 y11 p1_closed p1_gifts p1_heeds p1_needs p1_placeKinds p1_puts p1_putsInto p1_stepKinds p1_takes p1_takesFrom p1_wants) H := hP
            have hD : va_D A (wld_X1_follow cI cJ cZ h_p0 h_p1 ad_p0 ad_p0_all ad_p0_from ad_p0_to ad_p1 n_p0_all p0_made p0_turned p0_steps p0_all_width y18 p1_places p1_steps p1_coloured y19 y20 y21 y22 y23 p0_from_many p0_from_things p0_nexts y10 y11 p1_closed p1_gifts p1_heeds p1_needs p1_placeKinds p1_puts p1_putsInto p1_stepKinds p1_takes p1_takesFrom p1_wants) := hD
            refine lv_aload_n hx hb dX1_follow_128 rfl (lv_at hl 1 rfl) ?_
            refine va_get (D := (dC, dI)) (ci := 1) (v := .ref (ad_p0 3)) (C := RX1) (T := TX1) (N := 11) hx hb hts iX1 hown hK hP 0 rfl rfl 3 (by decide) (hts (.fieldLink RX1 31 "NetHouse$Field" "nexts" "[I") (by decide +kernel)) (fun _ h9 => h9) rfl dX1_follow_129 ?_
            refine lv_iload_n hx hb dX1_follow_132 rfl (lv_at hl 3 rfl) ?_
            refine lv_aload_n hx hb dX1_follow_133 rfl (lv_at hl 1 rfl) ?_
            refine va_get (D := (dC, dI)) (ci := 1) (v := .int p0_steps) (C := RX1) (T := TX1) (N := 11) hx hb hts iX1 hown hK hP 0 rfl rfl 10 (by decide) (hts (.fieldLink RX1 54 "NetHouse$Field" "steps" "I") (by decide +kernel)) (fun _ h9 => h9) rfl dX1_follow_134 ?_
            refine lv_imul hx hb dX1_follow_137 ?_
            refine lv_iload hx hb dX1_follow_138 (lv_at hl 6 rfl) ?_
            refine lv_iadd hx hb dX1_follow_140 ?_
            refine lv_iload hx hb dX1_follow_141 (lv_at hl 0 rfl) ?_
            refine va_iast hx hb hK hP hD hS 10 0 rfl rfl hw.1 dX1_follow_143 (fun H locs hP hD hS => ?_)
            have hw := hw.2
            have hP : va_P (dC, dI) vwCl (wld_X1_follow cI cJ cZ h_p0 h_p1 ad_p0 ad_p0_all ad_p0_from ad_p0_to ad_p1 n_p0_all p0_made p0_turned p0_steps p0_all_width y18 p1_places p1_steps p1_coloured y19 y20 y21 y22 y23 p0_from_many p0_from_things (upd p0_nexts ((v2 * p0_steps) + v5).toNatClampNeg p0_all_size) y10 y11 p1_closed p1_gifts p1_heeds p1_needs p1_placeKinds p1_puts p1_putsInto p1_stepKinds p1_takes p1_takesFrom p1_wants) H := hP
            have hD : va_D A (wld_X1_follow cI cJ cZ h_p0 h_p1 ad_p0 ad_p0_all ad_p0_from ad_p0_to ad_p1 n_p0_all p0_made p0_turned p0_steps p0_all_width y18 p1_places p1_steps p1_coloured y19 y20 y21 y22 y23 p0_from_many p0_from_things (upd p0_nexts ((v2 * p0_steps) + v5).toNatClampNeg p0_all_size) y10 y11 p1_closed p1_gifts p1_heeds p1_needs p1_placeKinds p1_puts p1_putsInto p1_stepKinds p1_takes p1_takesFrom p1_wants) := hD
            obtain ⟨x24, ex24⟩ : ∃ y : Int32, y = v5 + (1 : Int32) := ⟨_, rfl⟩
            have hw := hw x24 ex24
            refine lv_iinc (v := x24) (lv' := [(5, .int x24), (6, .int p0_all_size), (0, .ref h_p0), (1, .ref h_p1), (2, .int v2), (3, .int v3), (4, .int v4)]) hx hb dX1_follow_144 hl (k := 6) rfl (by rw [ex24]; rfl) (by decide) rfl (fun ls hl => ?_)
            refine lv_goto (tgt := 25) hx hb dX1_follow_147 (by decide) ?_
            exact ih _ _ _ _ _ _ _ _ _ _ hw _ _ _ hP hD hS (lv_sub hl [2, 3, 4, 5, 6, 0] rfl)
          · have hw := hw.2 c17
            refine lv_iconst (v := 0) hx hb dX1_follow_103 (by decide) ?_
            exact x_zret (w1 := fun (u : (Int32) × (Nat → Int32) × (Nat → Int32) × (Nat → Int32) × (Nat → Int32) × (Nat → Int32) × (Nat → Int32) × (Nat → Int32) × (Nat → Int32) × (Nat → Int64)) => (wld_X1_follow cI cJ cZ h_p0 h_p1 ad_p0 ad_p0_all ad_p0_from ad_p0_to ad_p1 n_p0_all p0_made p0_turned p0_steps p0_all_width (u.1) p1_places p1_steps p1_coloured (u.2.1) (u.2.2.1) (u.2.2.2.1) (u.2.2.2.2.1) (u.2.2.2.2.2.1) (u.2.2.2.2.2.2.1) p0_from_things (u.2.2.2.2.2.2.2.1) (u.2.2.2.2.2.2.2.2.1) (u.2.2.2.2.2.2.2.2.2) p1_closed p1_gifts p1_heeds p1_needs p1_placeKinds p1_puts p1_putsInto p1_stepKinds p1_takes p1_takesFrom p1_wants)) hx hb hr hlocks (by decide) (p0_all_size, p0_all_by, p0_all_cells, p0_all_former, p0_all_heads, p0_all_links, p0_from_many, p0_nexts, y10, y11) hw hP hD hS dX1_follow_104
set_option maxHeartbeats 4000000 in
set_option maxRecDepth 100000 in
theorem c_X1_follow {l : Launch} {dC : Nat → ClassId} {dI : Nat → Nat → Nat} {sz : Nat} {cI cJ cZ : ClassId} {h_p0 : Nat} {h_p1 : Nat} {ad_p0 : Nat → Nat} {ad_p0_all : Nat → Nat} {ad_p0_from : Nat → Nat} {ad_p0_to : Nat → Nat} {ad_p1 : Nat → Nat} {n_p0_all : Nat} {p0_made : Int32} {p0_turned : Int32} {p0_steps : Int32} {p0_all_width : Int32} {p0_all_size : Int32} {p1_places : Int32} {p1_steps : Int32} {p1_coloured : Int32} {p0_all_by : Nat → Int32} {p0_all_cells : Nat → Int32} {p0_all_former : Nat → Int32} {p0_all_heads : Nat → Int32} {p0_all_links : Nat → Int32} {p0_from_many : Nat → Int32} {p0_from_things : Nat → Int64} {p0_nexts : Nat → Int32} {p0_to_many : Nat → Int32} {p0_to_things : Nat → Int64} {p1_closed : Nat → Int32} {p1_gifts : Nat → Int32} {p1_heeds : Nat → Int32} {p1_needs : Nat → Int32} {p1_placeKinds : Nat → Int32} {p1_puts : Nat → Int32} {p1_putsInto : Nat → Int32} {p1_stepKinds : Nat → Int32} {p1_takes : Nat → Int32} {p1_takesFrom : Nat → Int32} {p1_wants : Nat → Int32} {a2 : Int32} {a3 : Int32} {post : Int32 → (Int32) → (Nat → Int32) → (Nat → Int32) → (Nat → Int32) → (Nat → Int32) → (Nat → Int32) → (Nat → Int32) → (Nat → Int32) → (Nat → Int32) → (Nat → Int64) → Prop} (hw : w_X1_follow n_p0_all p0_all_size p0_all_width p0_steps p1_places p1_steps p0_all_by p0_all_cells p0_all_former p0_all_heads p0_all_links p0_from_many p0_from_things p0_nexts p0_to_many p0_to_things p1_closed p1_gifts p1_heeds p1_needs p1_placeKinds p1_puts p1_putsInto p1_stepKinds p1_takes p1_takesFrom p1_wants a2 a3 post) : Met l yX1_follow wsX1_follow ({ frames := 4, cells := 0, slots := 0, locals := 98 }) (va_Pc [.ref h_p0, .ref h_p1, .int a2, .int a3] (xPre (dC, dI) cI cJ cZ (wld_X1_follow cI cJ cZ h_p0 h_p1 ad_p0 ad_p0_all ad_p0_from ad_p0_to ad_p1 n_p0_all p0_made p0_turned p0_steps p0_all_width p0_all_size p1_places p1_steps p1_coloured p0_all_by p0_all_cells p0_all_former p0_all_heads p0_all_links p0_from_many p0_from_things p0_nexts p0_to_many p0_to_things p1_closed p1_gifts p1_heeds p1_needs p1_placeKinds p1_puts p1_putsInto p1_stepKinds p1_takes p1_takesFrom p1_wants) sz)) (q_X1_follow dC dI cI cJ cZ h_p0 h_p1 ad_p0 ad_p0_all ad_p0_from ad_p0_to ad_p1 n_p0_all p0_made p0_turned p0_steps p0_all_width p0_all_size p1_places p1_steps p1_coloured p0_all_by p0_all_cells p0_all_former p0_all_heads p0_all_links p0_from_many p0_from_things p0_nexts p0_to_many p0_to_things p1_closed p1_gifts p1_heeds p1_needs p1_placeKinds p1_puts p1_putsInto p1_stepKinds p1_takes p1_takesFrom p1_wants post (va_A (wld_X1_follow cI cJ cZ h_p0 h_p1 ad_p0 ad_p0_all ad_p0_from ad_p0_to ad_p1 n_p0_all p0_made p0_turned p0_steps p0_all_width p0_all_size p1_places p1_steps p1_coloured p0_all_by p0_all_cells p0_all_former p0_all_heads p0_all_links p0_from_many p0_from_things p0_nexts p0_to_many p0_to_things p1_closed p1_gifts p1_heeds p1_needs p1_placeKinds p1_puts p1_putsInto p1_stepKinds p1_takes p1_takesFrom p1_wants) sz)) 0 0 (va_A (wld_X1_follow cI cJ cZ h_p0 h_p1 ad_p0 ad_p0_all ad_p0_from ad_p0_to ad_p1 n_p0_all p0_made p0_turned p0_steps p0_all_width p0_all_size p1_places p1_steps p1_coloured p0_all_by p0_all_cells p0_all_former p0_all_heads p0_all_links p0_from_many p0_from_things p0_nexts p0_to_many p0_to_things p1_closed p1_gifts p1_heeds p1_needs p1_placeKinds p1_puts p1_putsInto p1_stepKinds p1_takes p1_takesFrom p1_wants) sz) := by
  refine x_met (cc := cX1_follow) (maxL := 7) (ret := (some .boolean)) (own := RX1) (Qc := fun A => (q_X1_follow dC dI cI cJ cZ h_p0 h_p1 ad_p0 ad_p0_all ad_p0_from ad_p0_to ad_p1 n_p0_all p0_made p0_turned p0_steps p0_all_width p0_all_size p1_places p1_steps p1_coloured p0_all_by p0_all_cells p0_all_former p0_all_heads p0_all_links p0_from_many p0_from_things p0_nexts p0_to_many p0_to_things p1_closed p1_gifts p1_heeds p1_needs p1_placeKinds p1_puts p1_putsInto p1_stepKinds p1_takes p1_takesFrom p1_wants post A)) (by decide) rfl rfl (Nat.le_of_ble_eq_true rfl) ?_
  intro p e s m args below meth c A ls E0 hP hD hS hl
  obtain ⟨hx, hb, hr, hml, hown, hts, hlocks, hK, hA, n1, n2⟩ := id E0
  have iX1 : ∀ w ∈ u_ws RX1 TX1 11, w ∈ wsX1_follow := fun w h => List.mem_cons_of_mem _ (List.mem_append_left _ (List.mem_append_left _ (List.mem_append_left _ (List.mem_append_right _ h))))
  have iX3 : ∀ w ∈ u_ws RX3 TX3 2, w ∈ wsX1_follow := fun w h => List.mem_cons_of_mem _ (List.mem_append_left _ (List.mem_append_right _ h))
  have iX4 : ∀ w ∈ u_ws RX4 TX4 7, w ∈ wsX1_follow := fun w h => List.mem_cons_of_mem _ (List.mem_append_left _ (List.mem_append_left _ (List.mem_append_right _ h)))
  have iX5 : ∀ w ∈ u_ws RX5 TX5 14, w ∈ wsX1_follow := fun w h => List.mem_cons_of_mem _ (List.mem_append_right _ h)
  have hS0 := hS
  have hl : lv_has ls 7 [(0, .ref h_p0), (1, .ref h_p1), (2, .int a2), (3, .int a3)] := hl
  unfold w_X1_follow at hw
  obtain ⟨H, hH⟩ : ∃ H, H = s.heap := ⟨_, rfl⟩
  have hS : va_S A s.heap H [] := by rw [hH]; exact hS
  have hP : va_P (dC, dI) vwCl (wld_X1_follow cI cJ cZ h_p0 h_p1 ad_p0 ad_p0_all ad_p0_from ad_p0_to ad_p1 n_p0_all p0_made p0_turned p0_steps p0_all_width p0_all_size p1_places p1_steps p1_coloured p0_all_by p0_all_cells p0_all_former p0_all_heads p0_all_links p0_from_many p0_from_things p0_nexts p0_to_many p0_to_things p1_closed p1_gifts p1_heeds p1_needs p1_placeKinds p1_puts p1_putsInto p1_stepKinds p1_takes p1_takesFrom p1_wants) H := by rw [hH]; exact hP
  suffices hG : W p l e ({ frames := 4, cells := 0, slots := 0, locals := 98 }) s m args below meth c H [] 0 0 (MQ below (q_X1_follow dC dI cI cJ cZ h_p0 h_p1 ad_p0 ad_p0_all ad_p0_from ad_p0_to ad_p1 n_p0_all p0_made p0_turned p0_steps p0_all_width p0_all_size p1_places p1_steps p1_coloured p0_all_by p0_all_cells p0_all_former p0_all_heads p0_all_links p0_from_many p0_from_things p0_nexts p0_to_many p0_to_things p1_closed p1_gifts p1_heeds p1_needs p1_placeKinds p1_puts p1_putsInto p1_stepKinds p1_takes p1_takesFrom p1_wants post A) args s 0 0 A) (F0 m 0 ls []) by rw [hH] at hG; exact hG
  clear hH
  refine lv_aload_n hx hb dX1_follow_0 rfl (lv_at hl 0 rfl) ?_
  refine va_get (D := (dC, dI)) (ci := 1) (v := .ref (ad_p0 0)) (C := RX1) (T := TX1) (N := 11) hx hb hts iX1 hown hK hP 0 rfl rfl 0 (by decide) (hts (.fieldLink RX1 14 "NetHouse$Field" "all" "LNetHouse$Markings;") (by decide +kernel)) (fun _ h9 => h9) rfl dX1_follow_1 ?_
  refine lv_iload_n hx hb dX1_follow_4 rfl (lv_at hl 2 rfl) ?_
  refine lv_aload_n hx hb dX1_follow_5 rfl (lv_at hl 0 rfl) ?_
  refine va_get (D := (dC, dI)) (ci := 1) (v := .ref (ad_p0 1)) (C := RX1) (T := TX1) (N := 11) hx hb hts iX1 hown hK hP 0 rfl rfl 1 (by decide) (hts (.fieldLink RX1 23 "NetHouse$Field" "from" "LNetHouse$Holding;") (by decide +kernel)) (fun _ h9 => h9) rfl dX1_follow_6 ?_
  obtain ⟨hPc, hDc⟩ := x_sub (wc := (wld_X4_load cI cJ cZ (ad_p0 0) (ad_p0 1) ad_p0_all ad_p0_from n_p0_all p0_all_width p0_all_size p0_all_cells p0_from_many)) hP hD [1, 3, 7, 8] (n := 26) rfl rfl (by decide +kernel)
  refine x_callv (ws' := fun (u : (Nat → Int32)) => (wld_X1_follow cI cJ cZ h_p0 h_p1 ad_p0 ad_p0_all ad_p0_from ad_p0_to ad_p1 n_p0_all p0_made p0_turned p0_steps p0_all_width p0_all_size p1_places p1_steps p1_coloured p0_all_by p0_all_cells p0_all_former p0_all_heads p0_all_links u p0_from_things p0_nexts p0_to_many p0_to_things p1_closed p1_gifts p1_heeds p1_needs p1_placeKinds p1_puts p1_putsInto p1_stepKinds p1_takes p1_takesFrom p1_wants)) hP hD hS hA [1, 3, 7, 8] [0, 2, 4, 5, 6, 9, 10, 11, 12, 13, 14, 15, 16, 17, 18, 19, 20, 21, 22, 23, 24, 25] [0, 22, 1, 23, 2, 3, 4, 24, 25, 5, 6, 7, 8, 9, 10, 11, 12, 13, 14, 15, 16, 17, 18, 19, 20, 21] (n := 26) (k := 4) rfl (fun _ => rfl) rfl (by decide +kernel) (fun _ => rfl) (va_runV (As := [.int a2, .ref (ad_p0 1)]) (rest := []) ⟨hx, hb, hml, hown, hts⟩ (c_X4_load (l := l) (dC := dC) (dI := dI) (cI := cI) (cJ := cJ) (cZ := cZ) (sz := H.size) (h_p0 := (ad_p0 0)) (h_p2 := (ad_p0 1)) (ad_p0 := ad_p0_all) (ad_p2 := ad_p0_from) (n_p0 := n_p0_all) (p0_width := p0_all_width) (p0_size := p0_all_size) (p0_cells := p0_all_cells) (p2_many := p0_from_many) hw) (cwV 2 hts gX1_follow_X4_load rfl rfl rfl (by decide +kernel) ⟨Nat.le_of_ble_eq_true rfl, Nat.le_of_ble_eq_true rfl⟩) ⟨xPre_blind, va_recv hK hP (ci := 4) (q0 := 1) rfl rfl, xPre_at hK hPc hDc n1 n2⟩ rfl rfl hl.1 rfl (lv_room (Nat.le_of_ble_eq_true rfl)) dX1_follow_9 ⟨Nat.zero_le _, Nat.zero_le _⟩) (fun u H locs hw hP hD hS => ?_)
  obtain ⟨y1, rfl⟩ : ∃ z, z = u := ⟨_, rfl⟩
  try dsimp only at hw
  have hP : va_P (dC, dI) vwCl (wld_X1_follow cI cJ cZ h_p0 h_p1 ad_p0 ad_p0_all ad_p0_from ad_p0_to ad_p1 n_p0_all p0_made p0_turned p0_steps p0_all_width p0_all_size p1_places p1_steps p1_coloured p0_all_by p0_all_cells p0_all_former p0_all_heads p0_all_links y1 p0_from_things p0_nexts p0_to_many p0_to_things p1_closed p1_gifts p1_heeds p1_needs p1_placeKinds p1_puts p1_putsInto p1_stepKinds p1_takes p1_takesFrom p1_wants) H := hP
  have hD : va_D A (wld_X1_follow cI cJ cZ h_p0 h_p1 ad_p0 ad_p0_all ad_p0_from ad_p0_to ad_p1 n_p0_all p0_made p0_turned p0_steps p0_all_width p0_all_size p1_places p1_steps p1_coloured p0_all_by p0_all_cells p0_all_former p0_all_heads p0_all_links y1 p0_from_things p0_nexts p0_to_many p0_to_things p1_closed p1_gifts p1_heeds p1_needs p1_placeKinds p1_puts p1_putsInto p1_stepKinds p1_takes p1_takesFrom p1_wants) := hD
  refine lv_aload_n hx hb dX1_follow_12 rfl (lv_at hl 1 rfl) ?_
  refine lv_aload_n hx hb dX1_follow_13 rfl (lv_at hl 0 rfl) ?_
  refine va_get (D := (dC, dI)) (ci := 1) (v := .ref (ad_p0 1)) (C := RX1) (T := TX1) (N := 11) hx hb hts iX1 hown hK hP 0 rfl rfl 1 (by decide) (hts (.fieldLink RX1 23 "NetHouse$Field" "from" "LNetHouse$Holding;") (by decide +kernel)) (fun _ h9 => h9) rfl dX1_follow_14 ?_
  obtain ⟨hPc, hDc⟩ := x_sub (wc := (wld_X5_urges cI cJ cZ h_p1 (ad_p0 1) ad_p1 ad_p0_from p1_places p1_steps p1_coloured p1_closed p1_heeds p1_needs p1_placeKinds p1_stepKinds p1_takes p1_wants y1 p0_from_things)) hP hD [14, 15, 17, 18, 19, 22, 23, 25, 7, 8, 9] (n := 26) rfl rfl (by decide +kernel)
  refine x_calli (ws' := fun (u : Unit) => (wld_X1_follow cI cJ cZ h_p0 h_p1 ad_p0 ad_p0_all ad_p0_from ad_p0_to ad_p1 n_p0_all p0_made p0_turned p0_steps p0_all_width p0_all_size p1_places p1_steps p1_coloured p0_all_by p0_all_cells p0_all_former p0_all_heads p0_all_links y1 p0_from_things p0_nexts p0_to_many p0_to_things p1_closed p1_gifts p1_heeds p1_needs p1_placeKinds p1_puts p1_putsInto p1_stepKinds p1_takes p1_takesFrom p1_wants)) hP hD hS hA [14, 15, 17, 18, 19, 22, 23, 25, 7, 8, 9] [0, 1, 2, 3, 4, 5, 6, 10, 11, 12, 13, 16, 20, 21, 24] [0, 1, 2, 3, 4, 5, 6, 23, 24, 25, 7, 8, 9, 10, 15, 16, 11, 17, 18, 19, 12, 13, 20, 21, 14, 22] (n := 26) (k := 11) rfl (fun _ => rfl) rfl (by decide +kernel) (fun _ => rfl) (va_runV (As := [.ref (ad_p0 1)]) (rest := []) ⟨hx, hb, hml, hown, hts⟩ (c_X5_urges (l := l) (dC := dC) (dI := dI) (cI := cI) (cJ := cJ) (cZ := cZ) (sz := H.size) (h_p0 := h_p1) (h_p1 := (ad_p0 1)) (ad_p0 := ad_p1) (ad_p1 := ad_p0_from) (p0_places := p1_places) (p0_steps := p1_steps) (p0_coloured := p1_coloured) (p0_closed := p1_closed) (p0_heeds := p1_heeds) (p0_needs := p1_needs) (p0_placeKinds := p1_placeKinds) (p0_stepKinds := p1_stepKinds) (p0_takes := p1_takes) (p0_wants := p1_wants) (p1_many := y1) (p1_things := p0_from_things) hw) (cwV 1 hts gX1_follow_X5_urges rfl rfl rfl (by decide +kernel) ⟨Nat.le_of_ble_eq_true rfl, Nat.le_of_ble_eq_true rfl⟩) ⟨xPre_blind, va_recv hK hP (ci := 5) (q0 := 14) rfl rfl, xPre_at hK hPc hDc n1 n2⟩ rfl rfl hl.1 rfl (lv_room (Nat.le_of_ble_eq_true rfl)) dX1_follow_17 ⟨Nat.zero_le _, Nat.zero_le _⟩) (fun r2 u H locs hw hP hD hS => ?_)
  try dsimp only at hw
  have hP : va_P (dC, dI) vwCl (wld_X1_follow cI cJ cZ h_p0 h_p1 ad_p0 ad_p0_all ad_p0_from ad_p0_to ad_p1 n_p0_all p0_made p0_turned p0_steps p0_all_width p0_all_size p1_places p1_steps p1_coloured p0_all_by p0_all_cells p0_all_former p0_all_heads p0_all_links y1 p0_from_things p0_nexts p0_to_many p0_to_things p1_closed p1_gifts p1_heeds p1_needs p1_placeKinds p1_puts p1_putsInto p1_stepKinds p1_takes p1_takesFrom p1_wants) H := hP
  have hD : va_D A (wld_X1_follow cI cJ cZ h_p0 h_p1 ad_p0 ad_p0_all ad_p0_from ad_p0_to ad_p1 n_p0_all p0_made p0_turned p0_steps p0_all_width p0_all_size p1_places p1_steps p1_coloured p0_all_by p0_all_cells p0_all_former p0_all_heads p0_all_links y1 p0_from_things p0_nexts p0_to_many p0_to_things p1_closed p1_gifts p1_heeds p1_needs p1_placeKinds p1_puts p1_putsInto p1_stepKinds p1_takes p1_takesFrom p1_wants) := hD
  refine lv_istore (lv' := [(4, .int r2), (0, .ref h_p0), (1, .ref h_p1), (2, .int a2), (3, .int a3)]) hx hb dX1_follow_20 hl (by decide) rfl (fun ls hl => ?_)
  refine lv_iconst (v := 0) hx hb dX1_follow_22 (by decide) ?_
  refine lv_istore (lv' := [(5, .int (0 : Int32)), (4, .int r2), (0, .ref h_p0), (1, .ref h_p1), (2, .int a2), (3, .int a3)]) hx hb dX1_follow_23 hl (by decide) rfl (fun ls hl => ?_)
  obtain ⟨n25, hw⟩ := hw
  refine c_X1_follow_L25 (l := l) (z_p0_all_size := p0_all_size) (z_p0_all_by := p0_all_by) (z_p0_all_cells := p0_all_cells) (z_p0_all_former := p0_all_former) (z_p0_all_heads := p0_all_heads) (z_p0_all_links := p0_all_links) (z_p0_nexts := p0_nexts) (z_p0_to_many := p0_to_many) (z_p0_to_things := p0_to_things) E0 ?_ n25 _ _ _ _ _ _ _ _ _ _ hw _ _ _ hP hD hS (lv_sub hl [2, 3, 4, 5, 1, 0] rfl)
  · intro v26 s27 s28 s29 s30 s31 s32 s33 s34 s35 H locs ls hw hP hD hS hl
    have hP : va_P (dC, dI) vwCl (wld_X1_follow cI cJ cZ h_p0 h_p1 ad_p0 ad_p0_all ad_p0_from ad_p0_to ad_p1 n_p0_all p0_made p0_turned p0_steps p0_all_width s27 p1_places p1_steps p1_coloured s28 s29 s30 s31 s32 y1 p0_from_things s33 s34 s35 p1_closed p1_gifts p1_heeds p1_needs p1_placeKinds p1_puts p1_putsInto p1_stepKinds p1_takes p1_takesFrom p1_wants) H := hP
    have hD : va_D A (wld_X1_follow cI cJ cZ h_p0 h_p1 ad_p0 ad_p0_all ad_p0_from ad_p0_to ad_p1 n_p0_all p0_made p0_turned p0_steps p0_all_width s27 p1_places p1_steps p1_coloured s28 s29 s30 s31 s32 y1 p0_from_things s33 s34 s35 p1_closed p1_gifts p1_heeds p1_needs p1_placeKinds p1_puts p1_putsInto p1_stepKinds p1_takes p1_takesFrom p1_wants) := hD
    refine lv_iconst (v := 1) hx hb dX1_follow_150 (by decide) ?_
    exact x_zret (w1 := fun (u : (Int32) × (Nat → Int32) × (Nat → Int32) × (Nat → Int32) × (Nat → Int32) × (Nat → Int32) × (Nat → Int32) × (Nat → Int32) × (Nat → Int32) × (Nat → Int64)) => (wld_X1_follow cI cJ cZ h_p0 h_p1 ad_p0 ad_p0_all ad_p0_from ad_p0_to ad_p1 n_p0_all p0_made p0_turned p0_steps p0_all_width (u.1) p1_places p1_steps p1_coloured (u.2.1) (u.2.2.1) (u.2.2.2.1) (u.2.2.2.2.1) (u.2.2.2.2.2.1) (u.2.2.2.2.2.2.1) p0_from_things (u.2.2.2.2.2.2.2.1) (u.2.2.2.2.2.2.2.2.1) (u.2.2.2.2.2.2.2.2.2) p1_closed p1_gifts p1_heeds p1_needs p1_placeKinds p1_puts p1_putsInto p1_stepKinds p1_takes p1_takesFrom p1_wants)) hx hb hr hlocks (by decide) (s27, s28, s29, s30, s31, s32, y1, s33, s34, s35) hw hP hD hS dX1_follow_151
abbrev wld_X4_begin (cI cJ cZ : ClassId) (h_p0 : Nat) (ad_p0 : Nat → Nat) (p0_width : Int32) (p0_size : Int32) (p0_heads : Nat → Int32) : va_W := [(h_p0, .inr (4, [.ref (ad_p0 0), .ref (ad_p0 1), .ref (ad_p0 2), .ref (ad_p0 3), .ref (ad_p0 4), .int p0_width, .int p0_size])), ((ad_p0 4), .inl (cI, 1024, .inl p0_heads))]
abbrev q_X4_begin (dC : Nat → ClassId) (dI : Nat → Nat → Nat) (cI cJ cZ : ClassId) (h_p0 : Nat) (ad_p0 : Nat → Nat) (p0_width : Int32) (p0_size : Int32) (p0_heads : Nat → Int32) (post : (Int32) → (Int32) → (Nat → Int32) → Prop) (A : Nat → Prop) : Array Value → State → Outcome → State → Prop := va_Qv (fun (u : (Int32) × (Int32) × (Nat → Int32)) => post (u.1) (u.2.1) (u.2.2)) (fun (u : (Int32) × (Int32) × (Nat → Int32)) t => xPost (dC, dI) A (wld_X4_begin cI cJ cZ h_p0 ad_p0 (u.2.1) (u.1) (u.2.2)) t) A
def w_X4_begin (p0_size : Int32) (p0_width : Int32) (p0_heads : Nat → Int32) (a1 : Int32) (post : (Int32) → (Int32) → (Nat → Int32) → Prop) : Prop :=
  w_J7_fill_53178 1024 p0_heads (-1 : Int32) (fun y1 =>
  (post (0 : Int32) a1 y1))
set_option maxHeartbeats 4000000 in
set_option maxRecDepth 100000 in
theorem c_X4_begin {l : Launch} {dC : Nat → ClassId} {dI : Nat → Nat → Nat} {sz : Nat} {cI cJ cZ : ClassId} {h_p0 : Nat} {ad_p0 : Nat → Nat} {p0_width : Int32} {p0_size : Int32} {p0_heads : Nat → Int32} {a1 : Int32} {post : (Int32) → (Int32) → (Nat → Int32) → Prop} (hw : w_X4_begin p0_size p0_width p0_heads a1 post) : Met l yX4_begin wsX4_begin ({ frames := 1, cells := 0, slots := 0, locals := 23 }) (va_Pc [.ref h_p0, .int a1] (xPre (dC, dI) cI cJ cZ (wld_X4_begin cI cJ cZ h_p0 ad_p0 p0_width p0_size p0_heads) sz)) (q_X4_begin dC dI cI cJ cZ h_p0 ad_p0 p0_width p0_size p0_heads post (va_A (wld_X4_begin cI cJ cZ h_p0 ad_p0 p0_width p0_size p0_heads) sz)) 0 0 (va_A (wld_X4_begin cI cJ cZ h_p0 ad_p0 p0_width p0_size p0_heads) sz) := by
  refine x_met (cc := cX4_begin) (maxL := 2) (ret := none) (own := RX4) (Qc := fun A => (q_X4_begin dC dI cI cJ cZ h_p0 ad_p0 p0_width p0_size p0_heads post A)) (by decide) rfl rfl (Nat.le_of_ble_eq_true rfl) ?_
  intro p e s m args below meth c A ls E0 hP hD hS hl
  obtain ⟨hx, hb, hr, hml, hown, hts, hlocks, hK, hA, n1, n2⟩ := id E0
  have iX4 : ∀ w ∈ u_ws RX4 TX4 7, w ∈ wsX4_begin := fun w h => List.mem_cons_of_mem _ (List.mem_append_right _ h)
  have hS0 := hS
  have hl : lv_has ls 2 [(0, .ref h_p0), (1, .int a1)] := hl
  unfold w_X4_begin at hw
  obtain ⟨H, hH⟩ : ∃ H, H = s.heap := ⟨_, rfl⟩
  have hS : va_S A s.heap H [] := by rw [hH]; exact hS
  have hP : va_P (dC, dI) vwCl (wld_X4_begin cI cJ cZ h_p0 ad_p0 p0_width p0_size p0_heads) H := by rw [hH]; exact hP
  suffices hG : W p l e ({ frames := 1, cells := 0, slots := 0, locals := 23 }) s m args below meth c H [] 0 0 (MQ below (q_X4_begin dC dI cI cJ cZ h_p0 ad_p0 p0_width p0_size p0_heads post A) args s 0 0 A) (F0 m 0 ls []) by rw [hH] at hG; exact hG
  clear hH
  refine lv_aload_n hx hb dX4_begin_0 rfl (lv_at hl 0 rfl) ?_
  refine lv_iload_n hx hb dX4_begin_1 rfl (lv_at hl 1 rfl) ?_
  refine va_put (D := (dC, dI)) (ci := 4) (v := .int a1) (ty := .int) (C := RX4) (T := TX4) (N := 7) hx hb hts iX4 tyX4 tyX4_ok nmX4 hown hK hP hD hS 0 rfl rfl 5 (by decide) (hts (.fieldLink RX4 15 "NetHouse$Markings" "width" "I") (by decide +kernel)) (fun _ h9 => h9) rfl (by decide +kernel) rfl rfl (Nat.le_of_ble_eq_true rfl) dX4_begin_2 (fun H locs hP hD hS => ?_)
  have hP : va_P (dC, dI) vwCl (wld_X4_begin cI cJ cZ h_p0 ad_p0 a1 p0_size p0_heads) H := hP
  have hD : va_D A (wld_X4_begin cI cJ cZ h_p0 ad_p0 a1 p0_size p0_heads) := hD
  refine lv_aload_n hx hb dX4_begin_5 rfl (lv_at hl 0 rfl) ?_
  refine lv_iconst (v := 0) hx hb dX4_begin_6 (by decide) ?_
  refine va_put (D := (dC, dI)) (ci := 4) (v := .int (0 : Int32)) (ty := .int) (C := RX4) (T := TX4) (N := 7) hx hb hts iX4 tyX4 tyX4_ok nmX4 hown hK hP hD hS 0 rfl rfl 6 (by decide) (hts (.fieldLink RX4 19 "NetHouse$Markings" "size" "I") (by decide +kernel)) (fun _ h9 => h9) rfl (by decide +kernel) rfl rfl (Nat.le_of_ble_eq_true rfl) dX4_begin_7 (fun H locs hP hD hS => ?_)
  have hP : va_P (dC, dI) vwCl (wld_X4_begin cI cJ cZ h_p0 ad_p0 a1 (0 : Int32) p0_heads) H := hP
  have hD : va_D A (wld_X4_begin cI cJ cZ h_p0 ad_p0 a1 (0 : Int32) p0_heads) := hD
  refine lv_aload_n hx hb dX4_begin_10 rfl (lv_at hl 0 rfl) ?_
  refine va_get (D := (dC, dI)) (ci := 4) (v := .ref (ad_p0 4)) (C := RX4) (T := TX4) (N := 7) hx hb hts iX4 hown hK hP 0 rfl rfl 4 (by decide) (hts (.fieldLink RX4 11 "NetHouse$Markings" "heads" "[I") (by decide +kernel)) (fun _ h9 => h9) rfl dX4_begin_11 ?_
  refine lv_iconst (v := -1) hx hb dX4_begin_14 (by decide) ?_
  obtain ⟨hPc, hDc⟩ := x_sub (wc := (wld_J7_fill_53178 cI cJ cZ (ad_p0 4) 1024 p0_heads)) hP hD [1] (n := 2) rfl rfl (by decide +kernel)
  refine x_callv (ws' := fun (u : (Nat → Int32)) => (wld_X4_begin cI cJ cZ h_p0 ad_p0 a1 (0 : Int32) u)) hP hD hS hA [1] [0] [0, 1] (n := 2) (k := 1) rfl (fun _ => rfl) rfl (by decide +kernel) (fun _ => rfl) (va_runS (As := [.ref (ad_p0 4), .int (-1 : Int32)]) (rest := []) ⟨hx, hb, hml, hown, hts⟩ (c_J7_fill_53178 (l := l) (dC := dC) (dI := dI) (cI := cI) (cJ := cJ) (cZ := cZ) (sz := H.size) (h_p0 := (ad_p0 4)) (n_p0 := 1024) (p0 := p0_heads) hw) (va_cwS 2 hts gX4_begin_J7_fill_53178 rfl rfl rfl (by decide +kernel) ⟨Nat.le_of_ble_eq_true rfl, Nat.le_of_ble_eq_true rfl⟩) ⟨xPre_blind, xPre_at hK hPc hDc n1 n2⟩ rfl rfl hl.1 rfl (lv_room (Nat.le_of_ble_eq_true rfl)) dX4_begin_15 ⟨Nat.zero_le _, Nat.zero_le _⟩) (fun u H locs hw hP hD hS => ?_)
  obtain ⟨y1, rfl⟩ : ∃ z, z = u := ⟨_, rfl⟩
  try dsimp only at hw
  have hP : va_P (dC, dI) vwCl (wld_X4_begin cI cJ cZ h_p0 ad_p0 a1 (0 : Int32) y1) H := hP
  have hD : va_D A (wld_X4_begin cI cJ cZ h_p0 ad_p0 a1 (0 : Int32) y1) := hD
  exact x_vret (w1 := fun (u : (Int32) × (Int32) × (Nat → Int32)) => (wld_X4_begin cI cJ cZ h_p0 ad_p0 (u.2.1) (u.1) (u.2.2))) hx hb hr hlocks ((0 : Int32), a1, y1) hw hP hD hS dX4_begin_18
abbrev wld_X1_make (cI cJ cZ : ClassId) (h_p0 : Nat) (h_p1 : Nat) (h_p2 : Nat) (ad_p0 : Nat → Nat) (ad_p0_all : Nat → Nat) (ad_p0_from : Nat → Nat) (ad_p0_to : Nat → Nat) (ad_p1 : Nat → Nat) (ad_p2 : Nat → Nat) (n_p0_all : Nat) (p0_made : Int32) (p0_turned : Int32) (p0_steps : Int32) (p0_all_width : Int32) (p0_all_size : Int32) (p1_places : Int32) (p1_steps : Int32) (p1_coloured : Int32) (p0_all_by : Nat → Int32) (p0_all_cells : Nat → Int32) (p0_all_former : Nat → Int32) (p0_all_heads : Nat → Int32) (p0_all_links : Nat → Int32) (p0_from_many : Nat → Int32) (p0_from_things : Nat → Int64) (p0_nexts : Nat → Int32) (p0_to_many : Nat → Int32) (p0_to_things : Nat → Int64) (p1_closed : Nat → Int32) (p1_gifts : Nat → Int32) (p1_heeds : Nat → Int32) (p1_needs : Nat → Int32) (p1_placeKinds : Nat → Int32) (p1_puts : Nat → Int32) (p1_putsInto : Nat → Int32) (p1_stepKinds : Nat → Int32) (p1_takes : Nat → Int32) (p1_takesFrom : Nat → Int32) (p1_wants : Nat → Int32) (p2_many : Nat → Int32) : va_W := [(h_p0, .inr (1, [.ref (ad_p0 0), .ref (ad_p0 1), .ref (ad_p0 2), .ref (ad_p0 3), .ref (ad_p0 4), .ref (ad_p0 5), .ref (ad_p0 6), .ref (ad_p0 7), .int p0_made, .int p0_turned, .int p0_steps])), ((ad_p0 0), .inr (4, [.ref (ad_p0_all 0), .ref (ad_p0_all 1), .ref (ad_p0_all 2), .ref (ad_p0_all 3), .ref (ad_p0_all 4), .int p0_all_width, .int p0_all_size])), ((ad_p0_all 2), .inl (cI, n_p0_all, .inl p0_all_by)), ((ad_p0_all 0), .inl (cI, (n_p0_all * 16), .inl p0_all_cells)), ((ad_p0_all 1), .inl (cI, n_p0_all, .inl p0_all_former)), ((ad_p0_all 4), .inl (cI, 1024, .inl p0_all_heads)), ((ad_p0_all 3), .inl (cI, n_p0_all, .inl p0_all_links)), ((ad_p0 1), .inr (3, [.ref (ad_p0_from 0), .ref (ad_p0_from 1)])), ((ad_p0_from 0), .inl (cI, 16, .inl p0_from_many)), ((ad_p0_from 1), .inl (cJ, 16, .inr (.inl p0_from_things))), ((ad_p0 3), .inl (cI, 128000, .inl p0_nexts)), ((ad_p0 2), .inr (3, [.ref (ad_p0_to 0), .ref (ad_p0_to 1)])), ((ad_p0_to 0), .inl (cI, 16, .inl p0_to_many)), ((ad_p0_to 1), .inl (cJ, 16, .inr (.inl p0_to_things))), (h_p1, .inr (5, [.ref (ad_p1 0), .ref (ad_p1 1), .ref (ad_p1 2), .ref (ad_p1 3), .ref (ad_p1 4), .ref (ad_p1 5), .ref (ad_p1 6), .ref (ad_p1 7), .ref (ad_p1 8), .ref (ad_p1 9), .ref (ad_p1 10), .int p1_places, .int p1_steps, .int p1_coloured])), ((ad_p1 5), .inl (cI, 256, .inl p1_closed)), ((ad_p1 7), .inl (cI, 256, .inl p1_gifts)), ((ad_p1 10), .inl (cI, 16, .inl p1_heeds)), ((ad_p1 4), .inl (cI, 256, .inl p1_needs)), ((ad_p1 0), .inl (cI, 16, .inl p1_placeKinds)), ((ad_p1 3), .inl (cI, 256, .inl p1_puts)), ((ad_p1 9), .inl (cI, 16, .inl p1_putsInto)), ((ad_p1 1), .inl (cI, 16, .inl p1_stepKinds)), ((ad_p1 2), .inl (cI, 256, .inl p1_takes)), ((ad_p1 8), .inl (cI, 16, .inl p1_takesFrom)), ((ad_p1 6), .inl (cI, 256, .inl p1_wants)), (h_p2, .inr (3, [.ref (ad_p2 0), .ref (ad_p2 1)])), ((ad_p2 0), .inl (cI, 16, .inl p2_many))]
abbrev q_X1_make (dC : Nat → ClassId) (dI : Nat → Nat → Nat) (cI cJ cZ : ClassId) (h_p0 : Nat) (h_p1 : Nat) (h_p2 : Nat) (ad_p0 : Nat → Nat) (ad_p0_all : Nat → Nat) (ad_p0_from : Nat → Nat) (ad_p0_to : Nat → Nat) (ad_p1 : Nat → Nat) (ad_p2 : Nat → Nat) (n_p0_all : Nat) (p0_made : Int32) (p0_turned : Int32) (p0_steps : Int32) (p0_all_width : Int32) (p0_all_size : Int32) (p1_places : Int32) (p1_steps : Int32) (p1_coloured : Int32) (p0_all_by : Nat → Int32) (p0_all_cells : Nat → Int32) (p0_all_former : Nat → Int32) (p0_all_heads : Nat → Int32) (p0_all_links : Nat → Int32) (p0_from_many : Nat → Int32) (p0_from_things : Nat → Int64) (p0_nexts : Nat → Int32) (p0_to_many : Nat → Int32) (p0_to_things : Nat → Int64) (p1_closed : Nat → Int32) (p1_gifts : Nat → Int32) (p1_heeds : Nat → Int32) (p1_needs : Nat → Int32) (p1_placeKinds : Nat → Int32) (p1_puts : Nat → Int32) (p1_putsInto : Nat → Int32) (p1_stepKinds : Nat → Int32) (p1_takes : Nat → Int32) (p1_takesFrom : Nat → Int32) (p1_wants : Nat → Int32) (p2_many : Nat → Int32) (post : Int32 → (Int32) → (Int32) → (Int32) → (Int32) → (Int32) → (Nat → Int32) → (Nat → Int32) → (Nat → Int32) → (Nat → Int32) → (Nat → Int32) → (Nat → Int32) → (Nat → Int32) → (Nat → Int32) → (Nat → Int64) → Prop) (A : Nat → Prop) : Array Value → State → Outcome → State → Prop := va_Qi (fun r (u : (Int32) × (Int32) × (Int32) × (Int32) × (Int32) × (Nat → Int32) × (Nat → Int32) × (Nat → Int32) × (Nat → Int32) × (Nat → Int32) × (Nat → Int32) × (Nat → Int32) × (Nat → Int32) × (Nat → Int64)) => post r (u.1) (u.2.1) (u.2.2.1) (u.2.2.2.1) (u.2.2.2.2.1) (u.2.2.2.2.2.1) (u.2.2.2.2.2.2.1) (u.2.2.2.2.2.2.2.1) (u.2.2.2.2.2.2.2.2.1) (u.2.2.2.2.2.2.2.2.2.1) (u.2.2.2.2.2.2.2.2.2.2.1) (u.2.2.2.2.2.2.2.2.2.2.2.1) (u.2.2.2.2.2.2.2.2.2.2.2.2.1) (u.2.2.2.2.2.2.2.2.2.2.2.2.2)) (fun (u : (Int32) × (Int32) × (Int32) × (Int32) × (Int32) × (Nat → Int32) × (Nat → Int32) × (Nat → Int32) × (Nat → Int32) × (Nat → Int32) × (Nat → Int32) × (Nat → Int32) × (Nat → Int32) × (Nat → Int64)) t => xPost (dC, dI) A (wld_X1_make cI cJ cZ h_p0 h_p1 h_p2 ad_p0 ad_p0_all ad_p0_from ad_p0_to ad_p1 ad_p2 n_p0_all (u.2.2.1) (u.2.2.2.2.1) (u.2.2.2.1) (u.2.1) (u.1) p1_places p1_steps p1_coloured (u.2.2.2.2.2.1) (u.2.2.2.2.2.2.1) (u.2.2.2.2.2.2.2.1) (u.2.2.2.2.2.2.2.2.1) (u.2.2.2.2.2.2.2.2.2.1) (u.2.2.2.2.2.2.2.2.2.2.1) p0_from_things (u.2.2.2.2.2.2.2.2.2.2.2.1) (u.2.2.2.2.2.2.2.2.2.2.2.2.1) (u.2.2.2.2.2.2.2.2.2.2.2.2.2) p1_closed p1_gifts p1_heeds p1_needs p1_placeKinds p1_puts p1_putsInto p1_stepKinds p1_takes p1_takesFrom p1_wants p2_many) t) A
def w_X1_make_L44b (n_p0_all : Nat) (v3 : Int32) (p0_all_width : Int32) (p0_made : Int32) (p0_steps : Int32) (p0_turned : Int32) (p1_places : Int32) (p1_steps : Int32) (p0_from_things : Nat → Int64) (p1_closed : Nat → Int32) (p1_gifts : Nat → Int32) (p1_heeds : Nat → Int32) (p1_needs : Nat → Int32) (p1_placeKinds : Nat → Int32) (p1_puts : Nat → Int32) (p1_putsInto : Nat → Int32) (p1_stepKinds : Nat → Int32) (p1_takes : Nat → Int32) (p1_takesFrom : Nat → Int32) (p1_wants : Nat → Int32) (p2_many : Nat → Int32) (post : Int32 → (Int32) → (Int32) → (Int32) → (Int32) → (Int32) → (Nat → Int32) → (Nat → Int32) → (Nat → Int32) → (Nat → Int32) → (Nat → Int32) → (Nat → Int32) → (Nat → Int32) → (Nat → Int32) → (Nat → Int64) → Prop) (K : (Int32) → (Int32) → (Nat → Int32) → (Nat → Int32) → (Nat → Int32) → (Nat → Int32) → (Nat → Int32) → (Nat → Int32) → (Nat → Int32) → (Nat → Int32) → (Nat → Int64) → Prop) (rec : (Int32) → (Int32) → (Nat → Int32) → (Nat → Int32) → (Nat → Int32) → (Nat → Int32) → (Nat → Int32) → (Nat → Int32) → (Nat → Int32) → (Nat → Int32) → (Nat → Int64) → Prop) (v4 : Int32) (p0_all_size : Int32) (p0_all_by : Nat → Int32) (p0_all_cells : Nat → Int32) (p0_all_former : Nat → Int32) (p0_all_heads : Nat → Int32) (p0_all_links : Nat → Int32) (p0_from_many : Nat → Int32) (p0_nexts : Nat → Int32) (p0_to_many : Nat → Int32) (p0_to_things : Nat → Int64) : Prop :=
    (p0_all_size ≤ v4 →
      K v4 p0_all_size p0_all_by p0_all_cells p0_all_former p0_all_heads p0_all_links p0_from_many p0_nexts p0_to_many p0_to_things) ∧
    (¬ p0_all_size ≤ v4 →
      (v3 ≤ v4 →
        K v4 p0_all_size p0_all_by p0_all_cells p0_all_former p0_all_heads p0_all_links p0_from_many p0_nexts p0_to_many p0_to_things) ∧
      (¬ v3 ≤ v4 →
        w_X1_follow n_p0_all p0_all_size p0_all_width p0_steps p1_places p1_steps p0_all_by p0_all_cells p0_all_former p0_all_heads p0_all_links p0_from_many p0_from_things p0_nexts p0_to_many p0_to_things p1_closed p1_gifts p1_heeds p1_needs p1_placeKinds p1_puts p1_putsInto p1_stepKinds p1_takes p1_takesFrom p1_wants v4 v3 (fun r14 y15 y16 y17 y18 y19 y20 y21 y22 y23 y24 =>
        (¬ r14 = 0 →
          ∀ x27 : Int32, x27 = v4 + (1 : Int32) →
          rec x27 y15 y16 y17 y18 y19 y20 y21 y22 y23 y24) ∧
        (r14 = 0 →
          (post (0 : Int32) y15 p0_all_width p0_made p0_steps p0_turned y16 y17 y18 y19 y20 y21 y22 y23 y24)))))
def w_X1_make_L44 (n_p0_all : Nat) (v3 : Int32) (p0_all_width : Int32) (p0_made : Int32) (p0_steps : Int32) (p0_turned : Int32) (p1_places : Int32) (p1_steps : Int32) (p0_from_things : Nat → Int64) (p1_closed : Nat → Int32) (p1_gifts : Nat → Int32) (p1_heeds : Nat → Int32) (p1_needs : Nat → Int32) (p1_placeKinds : Nat → Int32) (p1_puts : Nat → Int32) (p1_putsInto : Nat → Int32) (p1_stepKinds : Nat → Int32) (p1_takes : Nat → Int32) (p1_takesFrom : Nat → Int32) (p1_wants : Nat → Int32) (p2_many : Nat → Int32) (post : Int32 → (Int32) → (Int32) → (Int32) → (Int32) → (Int32) → (Nat → Int32) → (Nat → Int32) → (Nat → Int32) → (Nat → Int32) → (Nat → Int32) → (Nat → Int32) → (Nat → Int32) → (Nat → Int32) → (Nat → Int64) → Prop) (K : (Int32) → (Int32) → (Nat → Int32) → (Nat → Int32) → (Nat → Int32) → (Nat → Int32) → (Nat → Int32) → (Nat → Int32) → (Nat → Int32) → (Nat → Int32) → (Nat → Int64) → Prop) : Nat → (Int32) → (Int32) → (Nat → Int32) → (Nat → Int32) → (Nat → Int32) → (Nat → Int32) → (Nat → Int32) → (Nat → Int32) → (Nat → Int32) → (Nat → Int32) → (Nat → Int64) → Prop
  | 0, _, _, _, _, _, _, _, _, _, _, _ => False
  | n + 1, v4, p0_all_size, p0_all_by, p0_all_cells, p0_all_former, p0_all_heads, p0_all_links, p0_from_many, p0_nexts, p0_to_many, p0_to_things => w_X1_make_L44b n_p0_all v3 p0_all_width p0_made p0_steps p0_turned p1_places p1_steps p0_from_things p1_closed p1_gifts p1_heeds p1_needs p1_placeKinds p1_puts p1_putsInto p1_stepKinds p1_takes p1_takesFrom p1_wants p2_many post K (w_X1_make_L44 n_p0_all v3 p0_all_width p0_made p0_steps p0_turned p1_places p1_steps p0_from_things p1_closed p1_gifts p1_heeds p1_needs p1_placeKinds p1_puts p1_putsInto p1_stepKinds p1_takes p1_takesFrom p1_wants p2_many post K n) v4 p0_all_size p0_all_by p0_all_cells p0_all_former p0_all_heads p0_all_links p0_from_many p0_nexts p0_to_many p0_to_things
def w_X1_make (n_p0_all : Nat) (p0_all_size : Int32) (p0_all_width : Int32) (p0_made : Int32) (p0_steps : Int32) (p0_turned : Int32) (p1_places : Int32) (p1_steps : Int32) (p0_all_by : Nat → Int32) (p0_all_cells : Nat → Int32) (p0_all_former : Nat → Int32) (p0_all_heads : Nat → Int32) (p0_all_links : Nat → Int32) (p0_from_many : Nat → Int32) (p0_from_things : Nat → Int64) (p0_nexts : Nat → Int32) (p0_to_many : Nat → Int32) (p0_to_things : Nat → Int64) (p1_closed : Nat → Int32) (p1_gifts : Nat → Int32) (p1_heeds : Nat → Int32) (p1_needs : Nat → Int32) (p1_placeKinds : Nat → Int32) (p1_puts : Nat → Int32) (p1_putsInto : Nat → Int32) (p1_stepKinds : Nat → Int32) (p1_takes : Nat → Int32) (p1_takesFrom : Nat → Int32) (p1_wants : Nat → Int32) (p2_many : Nat → Int32) (a3 : Int32) (post : Int32 → (Int32) → (Int32) → (Int32) → (Int32) → (Int32) → (Nat → Int32) → (Nat → Int32) → (Nat → Int32) → (Nat → Int32) → (Nat → Int32) → (Nat → Int32) → (Nat → Int32) → (Nat → Int32) → (Nat → Int64) → Prop) : Prop :=
  w_X4_begin p0_all_size p0_all_width p0_all_heads p1_places (fun y1 y2 y3 =>
  w_X4_add n_p0_all y1 y2 p0_all_by p0_all_cells p0_all_former y3 p0_all_links p2_many (-2000000005 : Int32) (-2000000005 : Int32) (fun y4 y5 y6 y7 y8 y9 =>
  ∃ n : Nat, w_X1_make_L44 n_p0_all a3 y2 (0 : Int32) p1_steps (0 : Int32) p1_places p1_steps p0_from_things p1_closed p1_gifts p1_heeds p1_needs p1_placeKinds p1_puts p1_putsInto p1_stepKinds p1_takes p1_takesFrom p1_wants p2_many post (fun v29 s30 s31 s32 s33 s34 s35 s36 s37 s38 s39 =>
      (post (1 : Int32) s30 y2 (1 : Int32) p1_steps (0 : Int32) s31 s32 s33 s34 s35 s36 s37 s38 s39)) n (0 : Int32) y4 y5 y6 y7 y8 y9 p0_from_many p0_nexts p0_to_many p0_to_things))
set_option maxHeartbeats 4000000 in
set_option maxRecDepth 100000 in
theorem c_X1_make_L44 {p : Program} {l : Launch} {e : Env} {s : State} {m : MethodId} {args : Array Value} {below : List Frame} {meth : Method} {c : Code} {dC : Nat → ClassId} {dI : Nat → Nat → Nat} {A : Nat → Prop} {cI cJ cZ : ClassId} {h_p0 : Nat} {h_p1 : Nat} {h_p2 : Nat} {ad_p0 : Nat → Nat} {ad_p0_all : Nat → Nat} {ad_p0_from : Nat → Nat} {ad_p0_to : Nat → Nat} {ad_p1 : Nat → Nat} {ad_p2 : Nat → Nat} {n_p0_all : Nat} {p0_made : Int32} {p0_turned : Int32} {p0_steps : Int32} {p0_all_width : Int32} {p1_places : Int32} {p1_steps : Int32} {p1_coloured : Int32} {p0_from_things : Nat → Int64} {p1_closed : Nat → Int32} {p1_gifts : Nat → Int32} {p1_heeds : Nat → Int32} {p1_needs : Nat → Int32} {p1_placeKinds : Nat → Int32} {p1_puts : Nat → Int32} {p1_putsInto : Nat → Int32} {p1_stepKinds : Nat → Int32} {p1_takes : Nat → Int32} {p1_takesFrom : Nat → Int32} {p1_wants : Nat → Int32} {p2_many : Nat → Int32} {v3 : Int32} {z_p0_all_size : Int32} {z_p0_all_by : Nat → Int32} {z_p0_all_cells : Nat → Int32} {z_p0_all_former : Nat → Int32} {z_p0_all_heads : Nat → Int32} {z_p0_all_links : Nat → Int32} {z_p0_from_many : Nat → Int32} {z_p0_nexts : Nat → Int32} {z_p0_to_many : Nat → Int32} {z_p0_to_things : Nat → Int64} {post : Int32 → (Int32) → (Int32) → (Int32) → (Int32) → (Int32) → (Nat → Int32) → (Nat → Int32) → (Nat → Int32) → (Nat → Int32) → (Nat → Int32) → (Nat → Int32) → (Nat → Int32) → (Nat → Int32) → (Nat → Int64) → Prop} {K : (Int32) → (Int32) → (Nat → Int32) → (Nat → Int32) → (Nat → Int32) → (Nat → Int32) → (Nat → Int32) → (Nat → Int32) → (Nat → Int32) → (Nat → Int32) → (Nat → Int64) → Prop} (E0 : xEnv p s m args meth c cX1_make (some .boolean) 5 RX1 wsX1_make (dC, dI) cI cJ cZ A) (hk : ∀ (v4 : Int32) (p0_all_size : Int32) (p0_all_by : Nat → Int32) (p0_all_cells : Nat → Int32) (p0_all_former : Nat → Int32) (p0_all_heads : Nat → Int32) (p0_all_links : Nat → Int32) (p0_from_many : Nat → Int32) (p0_nexts : Nat → Int32) (p0_to_many : Nat → Int32) (p0_to_things : Nat → Int64) (H : Heap) (locs : List Loc) (ls : Array Slot), K v4 p0_all_size p0_all_by p0_all_cells p0_all_former p0_all_heads p0_all_links p0_from_many p0_nexts p0_to_many p0_to_things → va_P (dC, dI) vwCl (wld_X1_make cI cJ cZ h_p0 h_p1 h_p2 ad_p0 ad_p0_all ad_p0_from ad_p0_to ad_p1 ad_p2 n_p0_all p0_made p0_turned p0_steps p0_all_width p0_all_size p1_places p1_steps p1_coloured p0_all_by p0_all_cells p0_all_former p0_all_heads p0_all_links p0_from_many p0_from_things p0_nexts p0_to_many p0_to_things p1_closed p1_gifts p1_heeds p1_needs p1_placeKinds p1_puts p1_putsInto p1_stepKinds p1_takes p1_takesFrom p1_wants p2_many) H → va_D A (wld_X1_make cI cJ cZ h_p0 h_p1 h_p2 ad_p0 ad_p0_all ad_p0_from ad_p0_to ad_p1 ad_p2 n_p0_all p0_made p0_turned p0_steps p0_all_width p0_all_size p1_places p1_steps p1_coloured p0_all_by p0_all_cells p0_all_former p0_all_heads p0_all_links p0_from_many p0_from_things p0_nexts p0_to_many p0_to_things p1_closed p1_gifts p1_heeds p1_needs p1_placeKinds p1_puts p1_putsInto p1_stepKinds p1_takes p1_takesFrom p1_wants p2_many) → va_S A s.heap H locs → lv_has ls 5 [(0, .ref h_p0)] → W p l e ({ frames := 5, cells := 0, slots := 0, locals := 124 }) s m args below meth c H locs 0 0 (MQ below (q_X1_make dC dI cI cJ cZ h_p0 h_p1 h_p2 ad_p0 ad_p0_all ad_p0_from ad_p0_to ad_p1 ad_p2 n_p0_all p0_made p0_turned p0_steps p0_all_width z_p0_all_size p1_places p1_steps p1_coloured z_p0_all_by z_p0_all_cells z_p0_all_former z_p0_all_heads z_p0_all_links z_p0_from_many p0_from_things z_p0_nexts z_p0_to_many z_p0_to_things p1_closed p1_gifts p1_heeds p1_needs p1_placeKinds p1_puts p1_putsInto p1_stepKinds p1_takes p1_takesFrom p1_wants p2_many post A) args s 0 0 A) (F0 m 81 ls [])) : ∀ (n : Nat) (v4 : Int32) (p0_all_size : Int32) (p0_all_by : Nat → Int32) (p0_all_cells : Nat → Int32) (p0_all_former : Nat → Int32) (p0_all_heads : Nat → Int32) (p0_all_links : Nat → Int32) (p0_from_many : Nat → Int32) (p0_nexts : Nat → Int32) (p0_to_many : Nat → Int32) (p0_to_things : Nat → Int64), w_X1_make_L44 n_p0_all v3 p0_all_width p0_made p0_steps p0_turned p1_places p1_steps p0_from_things p1_closed p1_gifts p1_heeds p1_needs p1_placeKinds p1_puts p1_putsInto p1_stepKinds p1_takes p1_takesFrom p1_wants p2_many post K n v4 p0_all_size p0_all_by p0_all_cells p0_all_former p0_all_heads p0_all_links p0_from_many p0_nexts p0_to_many p0_to_things → ∀ (H : Heap) (locs : List Loc) (ls : Array Slot), va_P (dC, dI) vwCl (wld_X1_make cI cJ cZ h_p0 h_p1 h_p2 ad_p0 ad_p0_all ad_p0_from ad_p0_to ad_p1 ad_p2 n_p0_all p0_made p0_turned p0_steps p0_all_width p0_all_size p1_places p1_steps p1_coloured p0_all_by p0_all_cells p0_all_former p0_all_heads p0_all_links p0_from_many p0_from_things p0_nexts p0_to_many p0_to_things p1_closed p1_gifts p1_heeds p1_needs p1_placeKinds p1_puts p1_putsInto p1_stepKinds p1_takes p1_takesFrom p1_wants p2_many) H → va_D A (wld_X1_make cI cJ cZ h_p0 h_p1 h_p2 ad_p0 ad_p0_all ad_p0_from ad_p0_to ad_p1 ad_p2 n_p0_all p0_made p0_turned p0_steps p0_all_width p0_all_size p1_places p1_steps p1_coloured p0_all_by p0_all_cells p0_all_former p0_all_heads p0_all_links p0_from_many p0_from_things p0_nexts p0_to_many p0_to_things p1_closed p1_gifts p1_heeds p1_needs p1_placeKinds p1_puts p1_putsInto p1_stepKinds p1_takes p1_takesFrom p1_wants p2_many) → va_S A s.heap H locs → lv_has ls 5 [(0, .ref h_p0), (1, .ref h_p1), (3, .int v3), (4, .int v4)] → W p l e ({ frames := 5, cells := 0, slots := 0, locals := 124 }) s m args below meth c H locs 0 0 (MQ below (q_X1_make dC dI cI cJ cZ h_p0 h_p1 h_p2 ad_p0 ad_p0_all ad_p0_from ad_p0_to ad_p1 ad_p2 n_p0_all p0_made p0_turned p0_steps p0_all_width z_p0_all_size p1_places p1_steps p1_coloured z_p0_all_by z_p0_all_cells z_p0_all_former z_p0_all_heads z_p0_all_links z_p0_from_many p0_from_things z_p0_nexts z_p0_to_many z_p0_to_things p1_closed p1_gifts p1_heeds p1_needs p1_placeKinds p1_puts p1_putsInto p1_stepKinds p1_takes p1_takesFrom p1_wants p2_many post A) args s 0 0 A) (F0 m 44 ls []) := by
  obtain ⟨hx, hb, hr, hml, hown, hts, hlocks, hK, hA, n1, n2⟩ := id E0
  have iX1 : ∀ w ∈ u_ws RX1 TX1 11, w ∈ wsX1_make := fun w h => List.mem_cons_of_mem _ (List.mem_append_left _ (List.mem_append_left _ (List.mem_append_left _ (List.mem_append_right _ h))))
  have iX3 : ∀ w ∈ u_ws RX3 TX3 2, w ∈ wsX1_make := fun w h => List.mem_cons_of_mem _ (List.mem_append_right _ h)
  have iX4 : ∀ w ∈ u_ws RX4 TX4 7, w ∈ wsX1_make := fun w h => List.mem_cons_of_mem _ (List.mem_append_left _ (List.mem_append_right _ h))
  have iX5 : ∀ w ∈ u_ws RX5 TX5 14, w ∈ wsX1_make := fun w h => List.mem_cons_of_mem _ (List.mem_append_left _ (List.mem_append_left _ (List.mem_append_right _ h)))
  intro n
  induction n with
  | zero => intro v4 p0_all_size p0_all_by p0_all_cells p0_all_former p0_all_heads p0_all_links p0_from_many p0_nexts p0_to_many p0_to_things hw; exact hw.elim
  | succ n ih =>
    intro v4 p0_all_size p0_all_by p0_all_cells p0_all_former p0_all_heads p0_all_links p0_from_many p0_nexts p0_to_many p0_to_things hw H locs ls hP hD hS hl
    have hw : w_X1_make_L44b n_p0_all v3 p0_all_width p0_made p0_steps p0_turned p1_places p1_steps p0_from_things p1_closed p1_gifts p1_heeds p1_needs p1_placeKinds p1_puts p1_putsInto p1_stepKinds p1_takes p1_takesFrom p1_wants p2_many post K (w_X1_make_L44 n_p0_all v3 p0_all_width p0_made p0_steps p0_turned p1_places p1_steps p0_from_things p1_closed p1_gifts p1_heeds p1_needs p1_placeKinds p1_puts p1_putsInto p1_stepKinds p1_takes p1_takesFrom p1_wants p2_many post K n) v4 p0_all_size p0_all_by p0_all_cells p0_all_former p0_all_heads p0_all_links p0_from_many p0_nexts p0_to_many p0_to_things := hw
    unfold w_X1_make_L44b at hw
    refine lv_iload hx hb dX1_make_44 (lv_at hl 3 rfl) ?_
    refine lv_aload_n hx hb dX1_make_46 rfl (lv_at hl 0 rfl) ?_
    refine va_get (D := (dC, dI)) (ci := 1) (v := .ref (ad_p0 0)) (C := RX1) (T := TX1) (N := 11) hx hb hts iX1 hown hK hP 0 rfl rfl 0 (by decide) (hts (.fieldLink RX1 14 "NetHouse$Field" "all" "LNetHouse$Markings;") (by decide +kernel)) (fun _ h9 => h9) rfl dX1_make_47 ?_
    refine va_get (D := (dC, dI)) (ci := 4) (v := .int p0_all_size) (C := RX4) (T := TX4) (N := 7) hx hb hts iX4 hown hK hP 1 rfl rfl 6 (by decide) (hts (.fieldLink RX1 59 "NetHouse$Markings" "size" "I") (by decide +kernel)) (fun _ h9 => h9) rfl dX1_make_50 ?_
    refine lv_icmp_ge (tgt := 81) hx hb dX1_make_53 (by decide) (fun c10 => ?_) (fun c11 => ?_)
    · have hw := hw.1 c10
      exact hk _ _ _ _ _ _ _ _ _ _ _ _ _ _ hw hP hD hS (lv_sub hl [0] rfl)
    · have hw := hw.2 c11
      refine lv_iload hx hb dX1_make_56 (lv_at hl 3 rfl) ?_
      refine lv_iload_n hx hb dX1_make_58 rfl (lv_at hl 2 rfl) ?_
      refine lv_icmp_ge (tgt := 81) hx hb dX1_make_59 (by decide) (fun c12 => ?_) (fun c13 => ?_)
      · have hw := hw.1 c12
        exact hk _ _ _ _ _ _ _ _ _ _ _ _ _ _ hw hP hD hS (lv_sub hl [0] rfl)
      · have hw := hw.2 c13
        refine lv_aload_n hx hb dX1_make_62 rfl (lv_at hl 0 rfl) ?_
        refine lv_aload_n hx hb dX1_make_63 rfl (lv_at hl 1 rfl) ?_
        refine lv_iload hx hb dX1_make_64 (lv_at hl 3 rfl) ?_
        refine lv_iload_n hx hb dX1_make_66 rfl (lv_at hl 2 rfl) ?_
        obtain ⟨hPc, hDc⟩ := x_sub (wc := (wld_X1_follow cI cJ cZ h_p0 h_p1 ad_p0 ad_p0_all ad_p0_from ad_p0_to ad_p1 n_p0_all p0_made p0_turned p0_steps p0_all_width p0_all_size p1_places p1_steps p1_coloured p0_all_by p0_all_cells p0_all_former p0_all_heads p0_all_links p0_from_many p0_from_things p0_nexts p0_to_many p0_to_things p1_closed p1_gifts p1_heeds p1_needs p1_placeKinds p1_puts p1_putsInto p1_stepKinds p1_takes p1_takesFrom p1_wants)) hP hD [0, 1, 2, 3, 4, 5, 6, 7, 8, 9, 10, 11, 12, 13, 14, 15, 16, 17, 18, 19, 20, 21, 22, 23, 24, 25] (n := 28) rfl rfl (by decide +kernel)
        refine x_calli (ws' := fun (u : (Int32) × (Nat → Int32) × (Nat → Int32) × (Nat → Int32) × (Nat → Int32) × (Nat → Int32) × (Nat → Int32) × (Nat → Int32) × (Nat → Int32) × (Nat → Int64)) => (wld_X1_make cI cJ cZ h_p0 h_p1 h_p2 ad_p0 ad_p0_all ad_p0_from ad_p0_to ad_p1 ad_p2 n_p0_all p0_made p0_turned p0_steps p0_all_width (u.1) p1_places p1_steps p1_coloured (u.2.1) (u.2.2.1) (u.2.2.2.1) (u.2.2.2.2.1) (u.2.2.2.2.2.1) (u.2.2.2.2.2.2.1) p0_from_things (u.2.2.2.2.2.2.2.1) (u.2.2.2.2.2.2.2.2.1) (u.2.2.2.2.2.2.2.2.2) p1_closed p1_gifts p1_heeds p1_needs p1_placeKinds p1_puts p1_putsInto p1_stepKinds p1_takes p1_takesFrom p1_wants p2_many)) hP hD hS hA [0, 1, 2, 3, 4, 5, 6, 7, 8, 9, 10, 11, 12, 13, 14, 15, 16, 17, 18, 19, 20, 21, 22, 23, 24, 25] [26, 27] [2, 3, 4, 5, 6, 7, 8, 9, 10, 11, 12, 13, 14, 15, 16, 17, 18, 19, 20, 21, 22, 23, 24, 25, 26, 27, 0, 1] (n := 28) (k := 26) rfl (fun _ => rfl) rfl (by decide +kernel) (fun _ => rfl) (va_runV (As := [.ref h_p1, .int v4, .int v3]) (rest := []) ⟨hx, hb, hml, hown, hts⟩ (c_X1_follow (l := l) (dC := dC) (dI := dI) (cI := cI) (cJ := cJ) (cZ := cZ) (sz := H.size) (h_p0 := h_p0) (h_p1 := h_p1) (ad_p0 := ad_p0) (ad_p0_all := ad_p0_all) (ad_p0_from := ad_p0_from) (ad_p0_to := ad_p0_to) (ad_p1 := ad_p1) (n_p0_all := n_p0_all) (p0_made := p0_made) (p0_turned := p0_turned) (p0_steps := p0_steps) (p0_all_width := p0_all_width) (p0_all_size := p0_all_size) (p1_places := p1_places) (p1_steps := p1_steps) (p1_coloured := p1_coloured) (p0_all_by := p0_all_by) (p0_all_cells := p0_all_cells) (p0_all_former := p0_all_former) (p0_all_heads := p0_all_heads) (p0_all_links := p0_all_links) (p0_from_many := p0_from_many) (p0_from_things := p0_from_things) (p0_nexts := p0_nexts) (p0_to_many := p0_to_many) (p0_to_things := p0_to_things) (p1_closed := p1_closed) (p1_gifts := p1_gifts) (p1_heeds := p1_heeds) (p1_needs := p1_needs) (p1_placeKinds := p1_placeKinds) (p1_puts := p1_puts) (p1_putsInto := p1_putsInto) (p1_stepKinds := p1_stepKinds) (p1_takes := p1_takes) (p1_takesFrom := p1_takesFrom) (p1_wants := p1_wants) hw) (cwV 3 hts gX1_make_X1_follow rfl rfl rfl (by decide +kernel) ⟨Nat.le_of_ble_eq_true rfl, Nat.le_of_ble_eq_true rfl⟩) ⟨xPre_blind, va_recv hK hP (ci := 1) (q0 := 0) rfl rfl, xPre_at hK hPc hDc n1 n2⟩ rfl rfl hl.1 rfl (lv_room (Nat.le_of_ble_eq_true rfl)) dX1_make_67 ⟨Nat.zero_le _, Nat.zero_le _⟩) (fun r14 u H locs hw hP hD hS => ?_)
        obtain ⟨y15, y16, y17, y18, y19, y20, y21, y22, y23, y24⟩ := u
        try dsimp only at hw
        have hP : va_P (dC, dI) vwCl (wld_X1_make cI cJ cZ h_p0 h_p1 h_p2 ad_p0 ad_p0_all ad_p0_from ad_p0_to ad_p1 ad_p2 n_p0_all p0_made p0_turned p0_steps p0_all_width y15 p1_places p1_steps p1_coloured y16 y17 y18 y19 y20 y21 p0_from_things y22 y23 y24 p1_closed p1_gifts p1_heeds p1_needs p1_placeKinds p1_puts p1_putsInto p1_stepKinds p1_takes p1_takesFrom p1_wants p2_many) H := hP
        have hD : va_D A (wld_X1_make cI cJ cZ h_p0 h_p1 h_p2 ad_p0 ad_p0_all ad_p0_from ad_p0_to ad_p1 ad_p2 n_p0_all p0_made p0_turned p0_steps p0_all_width y15 p1_places p1_steps p1_coloured y16 y17 y18 y19 y20 y21 p0_from_things y22 y23 y24 p1_closed p1_gifts p1_heeds p1_needs p1_placeKinds p1_puts p1_putsInto p1_stepKinds p1_takes p1_takesFrom p1_wants p2_many) := hD
        refine lv_if_ne (tgt := 75) hx hb dX1_make_70 (by decide) (fun c25 => ?_) (fun c26 => ?_)
        · have hw := hw.1 c25
          obtain ⟨x27, ex27⟩ : ∃ y : Int32, y = v4 + (1 : Int32) := ⟨_, rfl⟩
          have hw := hw x27 ex27
          refine lv_iinc (v := x27) (lv' := [(4, .int x27), (0, .ref h_p0), (1, .ref h_p1), (3, .int v3)]) hx hb dX1_make_75 hl (k := 3) rfl (by rw [ex27]; rfl) (by decide) rfl (fun ls hl => ?_)
          refine lv_goto (tgt := 44) hx hb dX1_make_78 (by decide) ?_
          exact ih _ _ _ _ _ _ _ _ _ _ _ hw _ _ _ hP hD hS (lv_sub hl [1, 2, 3, 0] rfl)
        · have hw := hw.2 c26
          refine lv_iconst (v := 0) hx hb dX1_make_73 (by decide) ?_
          exact x_zret (w1 := fun (u : (Int32) × (Int32) × (Int32) × (Int32) × (Int32) × (Nat → Int32) × (Nat → Int32) × (Nat → Int32) × (Nat → Int32) × (Nat → Int32) × (Nat → Int32) × (Nat → Int32) × (Nat → Int32) × (Nat → Int64)) => (wld_X1_make cI cJ cZ h_p0 h_p1 h_p2 ad_p0 ad_p0_all ad_p0_from ad_p0_to ad_p1 ad_p2 n_p0_all (u.2.2.1) (u.2.2.2.2.1) (u.2.2.2.1) (u.2.1) (u.1) p1_places p1_steps p1_coloured (u.2.2.2.2.2.1) (u.2.2.2.2.2.2.1) (u.2.2.2.2.2.2.2.1) (u.2.2.2.2.2.2.2.2.1) (u.2.2.2.2.2.2.2.2.2.1) (u.2.2.2.2.2.2.2.2.2.2.1) p0_from_things (u.2.2.2.2.2.2.2.2.2.2.2.1) (u.2.2.2.2.2.2.2.2.2.2.2.2.1) (u.2.2.2.2.2.2.2.2.2.2.2.2.2) p1_closed p1_gifts p1_heeds p1_needs p1_placeKinds p1_puts p1_putsInto p1_stepKinds p1_takes p1_takesFrom p1_wants p2_many)) hx hb hr hlocks (by decide) (y15, p0_all_width, p0_made, p0_steps, p0_turned, y16, y17, y18, y19, y20, y21, y22, y23, y24) hw hP hD hS dX1_make_74
set_option maxHeartbeats 4000000 in
set_option maxRecDepth 100000 in
theorem c_X1_make {l : Launch} {dC : Nat → ClassId} {dI : Nat → Nat → Nat} {sz : Nat} {cI cJ cZ : ClassId} {h_p0 : Nat} {h_p1 : Nat} {h_p2 : Nat} {ad_p0 : Nat → Nat} {ad_p0_all : Nat → Nat} {ad_p0_from : Nat → Nat} {ad_p0_to : Nat → Nat} {ad_p1 : Nat → Nat} {ad_p2 : Nat → Nat} {n_p0_all : Nat} {p0_made : Int32} {p0_turned : Int32} {p0_steps : Int32} {p0_all_width : Int32} {p0_all_size : Int32} {p1_places : Int32} {p1_steps : Int32} {p1_coloured : Int32} {p0_all_by : Nat → Int32} {p0_all_cells : Nat → Int32} {p0_all_former : Nat → Int32} {p0_all_heads : Nat → Int32} {p0_all_links : Nat → Int32} {p0_from_many : Nat → Int32} {p0_from_things : Nat → Int64} {p0_nexts : Nat → Int32} {p0_to_many : Nat → Int32} {p0_to_things : Nat → Int64} {p1_closed : Nat → Int32} {p1_gifts : Nat → Int32} {p1_heeds : Nat → Int32} {p1_needs : Nat → Int32} {p1_placeKinds : Nat → Int32} {p1_puts : Nat → Int32} {p1_putsInto : Nat → Int32} {p1_stepKinds : Nat → Int32} {p1_takes : Nat → Int32} {p1_takesFrom : Nat → Int32} {p1_wants : Nat → Int32} {p2_many : Nat → Int32} {a3 : Int32} {post : Int32 → (Int32) → (Int32) → (Int32) → (Int32) → (Int32) → (Nat → Int32) → (Nat → Int32) → (Nat → Int32) → (Nat → Int32) → (Nat → Int32) → (Nat → Int32) → (Nat → Int32) → (Nat → Int32) → (Nat → Int64) → Prop} (hw : w_X1_make n_p0_all p0_all_size p0_all_width p0_made p0_steps p0_turned p1_places p1_steps p0_all_by p0_all_cells p0_all_former p0_all_heads p0_all_links p0_from_many p0_from_things p0_nexts p0_to_many p0_to_things p1_closed p1_gifts p1_heeds p1_needs p1_placeKinds p1_puts p1_putsInto p1_stepKinds p1_takes p1_takesFrom p1_wants p2_many a3 post) : Met l yX1_make wsX1_make ({ frames := 5, cells := 0, slots := 0, locals := 124 }) (va_Pc [.ref h_p0, .ref h_p1, .ref h_p2, .int a3] (xPre (dC, dI) cI cJ cZ (wld_X1_make cI cJ cZ h_p0 h_p1 h_p2 ad_p0 ad_p0_all ad_p0_from ad_p0_to ad_p1 ad_p2 n_p0_all p0_made p0_turned p0_steps p0_all_width p0_all_size p1_places p1_steps p1_coloured p0_all_by p0_all_cells p0_all_former p0_all_heads p0_all_links p0_from_many p0_from_things p0_nexts p0_to_many p0_to_things p1_closed p1_gifts p1_heeds p1_needs p1_placeKinds p1_puts p1_putsInto p1_stepKinds p1_takes p1_takesFrom p1_wants p2_many) sz)) (q_X1_make dC dI cI cJ cZ h_p0 h_p1 h_p2 ad_p0 ad_p0_all ad_p0_from ad_p0_to ad_p1 ad_p2 n_p0_all p0_made p0_turned p0_steps p0_all_width p0_all_size p1_places p1_steps p1_coloured p0_all_by p0_all_cells p0_all_former p0_all_heads p0_all_links p0_from_many p0_from_things p0_nexts p0_to_many p0_to_things p1_closed p1_gifts p1_heeds p1_needs p1_placeKinds p1_puts p1_putsInto p1_stepKinds p1_takes p1_takesFrom p1_wants p2_many post (va_A (wld_X1_make cI cJ cZ h_p0 h_p1 h_p2 ad_p0 ad_p0_all ad_p0_from ad_p0_to ad_p1 ad_p2 n_p0_all p0_made p0_turned p0_steps p0_all_width p0_all_size p1_places p1_steps p1_coloured p0_all_by p0_all_cells p0_all_former p0_all_heads p0_all_links p0_from_many p0_from_things p0_nexts p0_to_many p0_to_things p1_closed p1_gifts p1_heeds p1_needs p1_placeKinds p1_puts p1_putsInto p1_stepKinds p1_takes p1_takesFrom p1_wants p2_many) sz)) 0 0 (va_A (wld_X1_make cI cJ cZ h_p0 h_p1 h_p2 ad_p0 ad_p0_all ad_p0_from ad_p0_to ad_p1 ad_p2 n_p0_all p0_made p0_turned p0_steps p0_all_width p0_all_size p1_places p1_steps p1_coloured p0_all_by p0_all_cells p0_all_former p0_all_heads p0_all_links p0_from_many p0_from_things p0_nexts p0_to_many p0_to_things p1_closed p1_gifts p1_heeds p1_needs p1_placeKinds p1_puts p1_putsInto p1_stepKinds p1_takes p1_takesFrom p1_wants p2_many) sz) := by
  refine x_met (cc := cX1_make) (maxL := 5) (ret := (some .boolean)) (own := RX1) (Qc := fun A => (q_X1_make dC dI cI cJ cZ h_p0 h_p1 h_p2 ad_p0 ad_p0_all ad_p0_from ad_p0_to ad_p1 ad_p2 n_p0_all p0_made p0_turned p0_steps p0_all_width p0_all_size p1_places p1_steps p1_coloured p0_all_by p0_all_cells p0_all_former p0_all_heads p0_all_links p0_from_many p0_from_things p0_nexts p0_to_many p0_to_things p1_closed p1_gifts p1_heeds p1_needs p1_placeKinds p1_puts p1_putsInto p1_stepKinds p1_takes p1_takesFrom p1_wants p2_many post A)) (by decide) rfl rfl (Nat.le_of_ble_eq_true rfl) ?_
  intro p e s m args below meth c A ls E0 hP hD hS hl
  obtain ⟨hx, hb, hr, hml, hown, hts, hlocks, hK, hA, n1, n2⟩ := id E0
  have iX1 : ∀ w ∈ u_ws RX1 TX1 11, w ∈ wsX1_make := fun w h => List.mem_cons_of_mem _ (List.mem_append_left _ (List.mem_append_left _ (List.mem_append_left _ (List.mem_append_right _ h))))
  have iX3 : ∀ w ∈ u_ws RX3 TX3 2, w ∈ wsX1_make := fun w h => List.mem_cons_of_mem _ (List.mem_append_right _ h)
  have iX4 : ∀ w ∈ u_ws RX4 TX4 7, w ∈ wsX1_make := fun w h => List.mem_cons_of_mem _ (List.mem_append_left _ (List.mem_append_right _ h))
  have iX5 : ∀ w ∈ u_ws RX5 TX5 14, w ∈ wsX1_make := fun w h => List.mem_cons_of_mem _ (List.mem_append_left _ (List.mem_append_left _ (List.mem_append_right _ h)))
  have hS0 := hS
  have hl : lv_has ls 5 [(0, .ref h_p0), (1, .ref h_p1), (2, .ref h_p2), (3, .int a3)] := hl
  unfold w_X1_make at hw
  obtain ⟨H, hH⟩ : ∃ H, H = s.heap := ⟨_, rfl⟩
  have hS : va_S A s.heap H [] := by rw [hH]; exact hS
  have hP : va_P (dC, dI) vwCl (wld_X1_make cI cJ cZ h_p0 h_p1 h_p2 ad_p0 ad_p0_all ad_p0_from ad_p0_to ad_p1 ad_p2 n_p0_all p0_made p0_turned p0_steps p0_all_width p0_all_size p1_places p1_steps p1_coloured p0_all_by p0_all_cells p0_all_former p0_all_heads p0_all_links p0_from_many p0_from_things p0_nexts p0_to_many p0_to_things p1_closed p1_gifts p1_heeds p1_needs p1_placeKinds p1_puts p1_putsInto p1_stepKinds p1_takes p1_takesFrom p1_wants p2_many) H := by rw [hH]; exact hP
  suffices hG : W p l e ({ frames := 5, cells := 0, slots := 0, locals := 124 }) s m args below meth c H [] 0 0 (MQ below (q_X1_make dC dI cI cJ cZ h_p0 h_p1 h_p2 ad_p0 ad_p0_all ad_p0_from ad_p0_to ad_p1 ad_p2 n_p0_all p0_made p0_turned p0_steps p0_all_width p0_all_size p1_places p1_steps p1_coloured p0_all_by p0_all_cells p0_all_former p0_all_heads p0_all_links p0_from_many p0_from_things p0_nexts p0_to_many p0_to_things p1_closed p1_gifts p1_heeds p1_needs p1_placeKinds p1_puts p1_putsInto p1_stepKinds p1_takes p1_takesFrom p1_wants p2_many post A) args s 0 0 A) (F0 m 0 ls []) by rw [hH] at hG; exact hG
  clear hH
  refine lv_aload_n hx hb dX1_make_0 rfl (lv_at hl 0 rfl) ?_
  refine lv_iconst (v := 0) hx hb dX1_make_1 (by decide) ?_
  refine va_put (D := (dC, dI)) (ci := 1) (v := .int (0 : Int32)) (ty := .boolean) (C := RX1) (T := TX1) (N := 11) hx hb hts iX1 tyX1 tyX1_ok nmX1 hown hK hP hD hS 0 rfl rfl 8 (by decide) (hts (.fieldLink RX1 47 "NetHouse$Field" "made" "Z") (by decide +kernel)) (fun _ h9 => h9) rfl (by decide +kernel) (by decide) (by decide) (Nat.le_of_ble_eq_true rfl) dX1_make_2 (fun H locs hP hD hS => ?_)
  have hP : va_P (dC, dI) vwCl (wld_X1_make cI cJ cZ h_p0 h_p1 h_p2 ad_p0 ad_p0_all ad_p0_from ad_p0_to ad_p1 ad_p2 n_p0_all (0 : Int32) p0_turned p0_steps p0_all_width p0_all_size p1_places p1_steps p1_coloured p0_all_by p0_all_cells p0_all_former p0_all_heads p0_all_links p0_from_many p0_from_things p0_nexts p0_to_many p0_to_things p1_closed p1_gifts p1_heeds p1_needs p1_placeKinds p1_puts p1_putsInto p1_stepKinds p1_takes p1_takesFrom p1_wants p2_many) H := hP
  have hD : va_D A (wld_X1_make cI cJ cZ h_p0 h_p1 h_p2 ad_p0 ad_p0_all ad_p0_from ad_p0_to ad_p1 ad_p2 n_p0_all (0 : Int32) p0_turned p0_steps p0_all_width p0_all_size p1_places p1_steps p1_coloured p0_all_by p0_all_cells p0_all_former p0_all_heads p0_all_links p0_from_many p0_from_things p0_nexts p0_to_many p0_to_things p1_closed p1_gifts p1_heeds p1_needs p1_placeKinds p1_puts p1_putsInto p1_stepKinds p1_takes p1_takesFrom p1_wants p2_many) := hD
  refine lv_aload_n hx hb dX1_make_5 rfl (lv_at hl 0 rfl) ?_
  refine lv_iconst (v := 0) hx hb dX1_make_6 (by decide) ?_
  refine va_put (D := (dC, dI)) (ci := 1) (v := .int (0 : Int32)) (ty := .boolean) (C := RX1) (T := TX1) (N := 11) hx hb hts iX1 tyX1 tyX1_ok nmX1 hown hK hP hD hS 0 rfl rfl 9 (by decide) (hts (.fieldLink RX1 51 "NetHouse$Field" "turned" "Z") (by decide +kernel)) (fun _ h9 => h9) rfl (by decide +kernel) (by decide) (by decide) (Nat.le_of_ble_eq_true rfl) dX1_make_7 (fun H locs hP hD hS => ?_)
  have hP : va_P (dC, dI) vwCl (wld_X1_make cI cJ cZ h_p0 h_p1 h_p2 ad_p0 ad_p0_all ad_p0_from ad_p0_to ad_p1 ad_p2 n_p0_all (0 : Int32) (0 : Int32) p0_steps p0_all_width p0_all_size p1_places p1_steps p1_coloured p0_all_by p0_all_cells p0_all_former p0_all_heads p0_all_links p0_from_many p0_from_things p0_nexts p0_to_many p0_to_things p1_closed p1_gifts p1_heeds p1_needs p1_placeKinds p1_puts p1_putsInto p1_stepKinds p1_takes p1_takesFrom p1_wants p2_many) H := hP
  have hD : va_D A (wld_X1_make cI cJ cZ h_p0 h_p1 h_p2 ad_p0 ad_p0_all ad_p0_from ad_p0_to ad_p1 ad_p2 n_p0_all (0 : Int32) (0 : Int32) p0_steps p0_all_width p0_all_size p1_places p1_steps p1_coloured p0_all_by p0_all_cells p0_all_former p0_all_heads p0_all_links p0_from_many p0_from_things p0_nexts p0_to_many p0_to_things p1_closed p1_gifts p1_heeds p1_needs p1_placeKinds p1_puts p1_putsInto p1_stepKinds p1_takes p1_takesFrom p1_wants p2_many) := hD
  refine lv_aload_n hx hb dX1_make_10 rfl (lv_at hl 0 rfl) ?_
  refine lv_aload_n hx hb dX1_make_11 rfl (lv_at hl 1 rfl) ?_
  refine va_get (D := (dC, dI)) (ci := 5) (v := .int p1_steps) (C := RX5) (T := TX5) (N := 14) hx hb hts iX5 hown hK hP 14 rfl rfl 12 (by decide) (hts (.fieldLink RX1 63 "NetHouse$Net" "steps" "I") (by decide +kernel)) (fun _ h9 => h9) rfl dX1_make_12 ?_
  refine va_put (D := (dC, dI)) (ci := 1) (v := .int p1_steps) (ty := .int) (C := RX1) (T := TX1) (N := 11) hx hb hts iX1 tyX1 tyX1_ok nmX1 hown hK hP hD hS 0 rfl rfl 10 (by decide) (hts (.fieldLink RX1 54 "NetHouse$Field" "steps" "I") (by decide +kernel)) (fun _ h9 => h9) rfl (by decide +kernel) rfl rfl (Nat.le_of_ble_eq_true rfl) dX1_make_15 (fun H locs hP hD hS => ?_)
  have hP : va_P (dC, dI) vwCl (wld_X1_make cI cJ cZ h_p0 h_p1 h_p2 ad_p0 ad_p0_all ad_p0_from ad_p0_to ad_p1 ad_p2 n_p0_all (0 : Int32) (0 : Int32) p1_steps p0_all_width p0_all_size p1_places p1_steps p1_coloured p0_all_by p0_all_cells p0_all_former p0_all_heads p0_all_links p0_from_many p0_from_things p0_nexts p0_to_many p0_to_things p1_closed p1_gifts p1_heeds p1_needs p1_placeKinds p1_puts p1_putsInto p1_stepKinds p1_takes p1_takesFrom p1_wants p2_many) H := hP
  have hD : va_D A (wld_X1_make cI cJ cZ h_p0 h_p1 h_p2 ad_p0 ad_p0_all ad_p0_from ad_p0_to ad_p1 ad_p2 n_p0_all (0 : Int32) (0 : Int32) p1_steps p0_all_width p0_all_size p1_places p1_steps p1_coloured p0_all_by p0_all_cells p0_all_former p0_all_heads p0_all_links p0_from_many p0_from_things p0_nexts p0_to_many p0_to_things p1_closed p1_gifts p1_heeds p1_needs p1_placeKinds p1_puts p1_putsInto p1_stepKinds p1_takes p1_takesFrom p1_wants p2_many) := hD
  refine lv_aload_n hx hb dX1_make_18 rfl (lv_at hl 0 rfl) ?_
  refine va_get (D := (dC, dI)) (ci := 1) (v := .ref (ad_p0 0)) (C := RX1) (T := TX1) (N := 11) hx hb hts iX1 hown hK hP 0 rfl rfl 0 (by decide) (hts (.fieldLink RX1 14 "NetHouse$Field" "all" "LNetHouse$Markings;") (by decide +kernel)) (fun _ h9 => h9) rfl dX1_make_19 ?_
  refine lv_aload_n hx hb dX1_make_22 rfl (lv_at hl 1 rfl) ?_
  refine va_get (D := (dC, dI)) (ci := 5) (v := .int p1_places) (C := RX5) (T := TX5) (N := 14) hx hb hts iX5 hown hK hP 14 rfl rfl 11 (by decide) (hts (.fieldLink RX1 66 "NetHouse$Net" "places" "I") (by decide +kernel)) (fun _ h9 => h9) rfl dX1_make_23 ?_
  obtain ⟨hPc, hDc⟩ := x_sub (wc := (wld_X4_begin cI cJ cZ (ad_p0 0) ad_p0_all p0_all_width p0_all_size p0_all_heads)) hP hD [1, 5] (n := 28) rfl rfl (by decide +kernel)
  refine x_callv (ws' := fun (u : (Int32) × (Int32) × (Nat → Int32)) => (wld_X1_make cI cJ cZ h_p0 h_p1 h_p2 ad_p0 ad_p0_all ad_p0_from ad_p0_to ad_p1 ad_p2 n_p0_all (0 : Int32) (0 : Int32) p1_steps (u.2.1) (u.1) p1_places p1_steps p1_coloured p0_all_by p0_all_cells p0_all_former (u.2.2) p0_all_links p0_from_many p0_from_things p0_nexts p0_to_many p0_to_things p1_closed p1_gifts p1_heeds p1_needs p1_placeKinds p1_puts p1_putsInto p1_stepKinds p1_takes p1_takesFrom p1_wants p2_many)) hP hD hS hA [1, 5] [0, 2, 3, 4, 6, 7, 8, 9, 10, 11, 12, 13, 14, 15, 16, 17, 18, 19, 20, 21, 22, 23, 24, 25, 26, 27] [0, 26, 1, 2, 3, 27, 4, 5, 6, 7, 8, 9, 10, 11, 12, 13, 14, 15, 16, 17, 18, 19, 20, 21, 22, 23, 24, 25] (n := 28) (k := 2) rfl (fun _ => rfl) rfl (by decide +kernel) (fun _ => rfl) (va_runV (As := [.int p1_places]) (rest := []) ⟨hx, hb, hml, hown, hts⟩ (c_X4_begin (l := l) (dC := dC) (dI := dI) (cI := cI) (cJ := cJ) (cZ := cZ) (sz := H.size) (h_p0 := (ad_p0 0)) (ad_p0 := ad_p0_all) (p0_width := p0_all_width) (p0_size := p0_all_size) (p0_heads := p0_all_heads) hw) (cwV 1 hts gX1_make_X4_begin rfl rfl rfl (by decide +kernel) ⟨Nat.le_of_ble_eq_true rfl, Nat.le_of_ble_eq_true rfl⟩) ⟨xPre_blind, va_recv hK hP (ci := 4) (q0 := 1) rfl rfl, xPre_at hK hPc hDc n1 n2⟩ rfl rfl hl.1 rfl (lv_room (Nat.le_of_ble_eq_true rfl)) dX1_make_26 ⟨Nat.zero_le _, Nat.zero_le _⟩) (fun u H locs hw hP hD hS => ?_)
  obtain ⟨y1, y2, y3⟩ := u
  try dsimp only at hw
  have hP : va_P (dC, dI) vwCl (wld_X1_make cI cJ cZ h_p0 h_p1 h_p2 ad_p0 ad_p0_all ad_p0_from ad_p0_to ad_p1 ad_p2 n_p0_all (0 : Int32) (0 : Int32) p1_steps y2 y1 p1_places p1_steps p1_coloured p0_all_by p0_all_cells p0_all_former y3 p0_all_links p0_from_many p0_from_things p0_nexts p0_to_many p0_to_things p1_closed p1_gifts p1_heeds p1_needs p1_placeKinds p1_puts p1_putsInto p1_stepKinds p1_takes p1_takesFrom p1_wants p2_many) H := hP
  have hD : va_D A (wld_X1_make cI cJ cZ h_p0 h_p1 h_p2 ad_p0 ad_p0_all ad_p0_from ad_p0_to ad_p1 ad_p2 n_p0_all (0 : Int32) (0 : Int32) p1_steps y2 y1 p1_places p1_steps p1_coloured p0_all_by p0_all_cells p0_all_former y3 p0_all_links p0_from_many p0_from_things p0_nexts p0_to_many p0_to_things p1_closed p1_gifts p1_heeds p1_needs p1_placeKinds p1_puts p1_putsInto p1_stepKinds p1_takes p1_takesFrom p1_wants p2_many) := hD
  refine lv_aload_n hx hb dX1_make_29 rfl (lv_at hl 0 rfl) ?_
  refine va_get (D := (dC, dI)) (ci := 1) (v := .ref (ad_p0 0)) (C := RX1) (T := TX1) (N := 11) hx hb hts iX1 hown hK hP 0 rfl rfl 0 (by decide) (hts (.fieldLink RX1 14 "NetHouse$Field" "all" "LNetHouse$Markings;") (by decide +kernel)) (fun _ h9 => h9) rfl dX1_make_30 ?_
  refine lv_aload_n hx hb dX1_make_33 rfl (lv_at hl 2 rfl) ?_
  refine lv_ldc (v := -2000000005) hx hb hown (hts (.constant RX1 72 (-2000000005)) (by decide +kernel)) dX1_make_34 ?_
  refine lv_ldc (v := -2000000005) hx hb hown (hts (.constant RX1 72 (-2000000005)) (by decide +kernel)) dX1_make_36 ?_
  obtain ⟨hPc, hDc⟩ := x_sub (wc := (wld_X4_add cI cJ cZ (ad_p0 0) h_p2 ad_p0_all ad_p2 n_p0_all y2 y1 p0_all_by p0_all_cells p0_all_former y3 p0_all_links p2_many)) hP hD [1, 2, 3, 4, 5, 6, 26, 27] (n := 28) rfl rfl (by decide +kernel)
  refine x_callv (ws' := fun (u : (Int32) × (Nat → Int32) × (Nat → Int32) × (Nat → Int32) × (Nat → Int32) × (Nat → Int32)) => (wld_X1_make cI cJ cZ h_p0 h_p1 h_p2 ad_p0 ad_p0_all ad_p0_from ad_p0_to ad_p1 ad_p2 n_p0_all (0 : Int32) (0 : Int32) p1_steps y2 (u.1) p1_places p1_steps p1_coloured (u.2.1) (u.2.2.1) (u.2.2.2.1) (u.2.2.2.2.1) (u.2.2.2.2.2) p0_from_many p0_from_things p0_nexts p0_to_many p0_to_things p1_closed p1_gifts p1_heeds p1_needs p1_placeKinds p1_puts p1_putsInto p1_stepKinds p1_takes p1_takesFrom p1_wants p2_many)) hP hD hS hA [1, 2, 3, 4, 5, 6, 26, 27] [0, 7, 8, 9, 10, 11, 12, 13, 14, 15, 16, 17, 18, 19, 20, 21, 22, 23, 24, 25] [0, 20, 21, 22, 23, 24, 25, 1, 2, 3, 4, 5, 6, 7, 8, 9, 10, 11, 12, 13, 14, 15, 16, 17, 18, 19, 26, 27] (n := 28) (k := 8) rfl (fun _ => rfl) rfl (by decide +kernel) (fun _ => rfl) (va_runV (As := [.ref h_p2, .int (-2000000005 : Int32), .int (-2000000005 : Int32)]) (rest := []) ⟨hx, hb, hml, hown, hts⟩ (c_X4_add (l := l) (dC := dC) (dI := dI) (cI := cI) (cJ := cJ) (cZ := cZ) (sz := H.size) (h_p0 := (ad_p0 0)) (h_p1 := h_p2) (ad_p0 := ad_p0_all) (ad_p1 := ad_p2) (n_p0 := n_p0_all) (p0_width := y2) (p0_size := y1) (p0_by := p0_all_by) (p0_cells := p0_all_cells) (p0_former := p0_all_former) (p0_heads := y3) (p0_links := p0_all_links) (p1_many := p2_many) hw) (cwV 3 hts gX1_make_X4_add rfl rfl rfl (by decide +kernel) ⟨Nat.le_of_ble_eq_true rfl, Nat.le_of_ble_eq_true rfl⟩) ⟨xPre_blind, va_recv hK hP (ci := 4) (q0 := 1) rfl rfl, xPre_at hK hPc hDc n1 n2⟩ rfl rfl hl.1 rfl (lv_room (Nat.le_of_ble_eq_true rfl)) dX1_make_38 ⟨Nat.zero_le _, Nat.zero_le _⟩) (fun u H locs hw hP hD hS => ?_)
  obtain ⟨y4, y5, y6, y7, y8, y9⟩ := u
  try dsimp only at hw
  have hP : va_P (dC, dI) vwCl (wld_X1_make cI cJ cZ h_p0 h_p1 h_p2 ad_p0 ad_p0_all ad_p0_from ad_p0_to ad_p1 ad_p2 n_p0_all (0 : Int32) (0 : Int32) p1_steps y2 y4 p1_places p1_steps p1_coloured y5 y6 y7 y8 y9 p0_from_many p0_from_things p0_nexts p0_to_many p0_to_things p1_closed p1_gifts p1_heeds p1_needs p1_placeKinds p1_puts p1_putsInto p1_stepKinds p1_takes p1_takesFrom p1_wants p2_many) H := hP
  have hD : va_D A (wld_X1_make cI cJ cZ h_p0 h_p1 h_p2 ad_p0 ad_p0_all ad_p0_from ad_p0_to ad_p1 ad_p2 n_p0_all (0 : Int32) (0 : Int32) p1_steps y2 y4 p1_places p1_steps p1_coloured y5 y6 y7 y8 y9 p0_from_many p0_from_things p0_nexts p0_to_many p0_to_things p1_closed p1_gifts p1_heeds p1_needs p1_placeKinds p1_puts p1_putsInto p1_stepKinds p1_takes p1_takesFrom p1_wants p2_many) := hD
  refine lv_iconst (v := 0) hx hb dX1_make_41 (by decide) ?_
  refine lv_istore (lv' := [(4, .int (0 : Int32)), (0, .ref h_p0), (1, .ref h_p1), (2, .ref h_p2), (3, .int a3)]) hx hb dX1_make_42 hl (by decide) rfl (fun ls hl => ?_)
  obtain ⟨n28, hw⟩ := hw
  refine c_X1_make_L44 (l := l) (z_p0_all_size := y4) (z_p0_all_by := y5) (z_p0_all_cells := y6) (z_p0_all_former := y7) (z_p0_all_heads := y8) (z_p0_all_links := y9) (z_p0_from_many := p0_from_many) (z_p0_nexts := p0_nexts) (z_p0_to_many := p0_to_many) (z_p0_to_things := p0_to_things) E0 ?_ n28 _ _ _ _ _ _ _ _ _ _ _ hw _ _ _ hP hD hS (lv_sub hl [1, 2, 4, 0] rfl)
  · intro v29 s30 s31 s32 s33 s34 s35 s36 s37 s38 s39 H locs ls hw hP hD hS hl
    have hP : va_P (dC, dI) vwCl (wld_X1_make cI cJ cZ h_p0 h_p1 h_p2 ad_p0 ad_p0_all ad_p0_from ad_p0_to ad_p1 ad_p2 n_p0_all (0 : Int32) (0 : Int32) p1_steps y2 s30 p1_places p1_steps p1_coloured s31 s32 s33 s34 s35 s36 p0_from_things s37 s38 s39 p1_closed p1_gifts p1_heeds p1_needs p1_placeKinds p1_puts p1_putsInto p1_stepKinds p1_takes p1_takesFrom p1_wants p2_many) H := hP
    have hD : va_D A (wld_X1_make cI cJ cZ h_p0 h_p1 h_p2 ad_p0 ad_p0_all ad_p0_from ad_p0_to ad_p1 ad_p2 n_p0_all (0 : Int32) (0 : Int32) p1_steps y2 s30 p1_places p1_steps p1_coloured s31 s32 s33 s34 s35 s36 p0_from_things s37 s38 s39 p1_closed p1_gifts p1_heeds p1_needs p1_placeKinds p1_puts p1_putsInto p1_stepKinds p1_takes p1_takesFrom p1_wants p2_many) := hD
    refine lv_aload_n hx hb dX1_make_81 rfl (lv_at hl 0 rfl) ?_
    refine lv_iconst (v := 1) hx hb dX1_make_82 (by decide) ?_
    refine va_put (D := (dC, dI)) (ci := 1) (v := .int (1 : Int32)) (ty := .boolean) (C := RX1) (T := TX1) (N := 11) hx hb hts iX1 tyX1 tyX1_ok nmX1 hown hK hP hD hS 0 rfl rfl 8 (by decide) (hts (.fieldLink RX1 47 "NetHouse$Field" "made" "Z") (by decide +kernel)) (fun _ h9 => h9) rfl (by decide +kernel) (by decide) (by decide) (Nat.le_of_ble_eq_true rfl) dX1_make_83 (fun H locs hP hD hS => ?_)
    have hP : va_P (dC, dI) vwCl (wld_X1_make cI cJ cZ h_p0 h_p1 h_p2 ad_p0 ad_p0_all ad_p0_from ad_p0_to ad_p1 ad_p2 n_p0_all (1 : Int32) (0 : Int32) p1_steps y2 s30 p1_places p1_steps p1_coloured s31 s32 s33 s34 s35 s36 p0_from_things s37 s38 s39 p1_closed p1_gifts p1_heeds p1_needs p1_placeKinds p1_puts p1_putsInto p1_stepKinds p1_takes p1_takesFrom p1_wants p2_many) H := hP
    have hD : va_D A (wld_X1_make cI cJ cZ h_p0 h_p1 h_p2 ad_p0 ad_p0_all ad_p0_from ad_p0_to ad_p1 ad_p2 n_p0_all (1 : Int32) (0 : Int32) p1_steps y2 s30 p1_places p1_steps p1_coloured s31 s32 s33 s34 s35 s36 p0_from_things s37 s38 s39 p1_closed p1_gifts p1_heeds p1_needs p1_placeKinds p1_puts p1_putsInto p1_stepKinds p1_takes p1_takesFrom p1_wants p2_many) := hD
    refine lv_iconst (v := 1) hx hb dX1_make_86 (by decide) ?_
    exact x_zret (w1 := fun (u : (Int32) × (Int32) × (Int32) × (Int32) × (Int32) × (Nat → Int32) × (Nat → Int32) × (Nat → Int32) × (Nat → Int32) × (Nat → Int32) × (Nat → Int32) × (Nat → Int32) × (Nat → Int32) × (Nat → Int64)) => (wld_X1_make cI cJ cZ h_p0 h_p1 h_p2 ad_p0 ad_p0_all ad_p0_from ad_p0_to ad_p1 ad_p2 n_p0_all (u.2.2.1) (u.2.2.2.2.1) (u.2.2.2.1) (u.2.1) (u.1) p1_places p1_steps p1_coloured (u.2.2.2.2.2.1) (u.2.2.2.2.2.2.1) (u.2.2.2.2.2.2.2.1) (u.2.2.2.2.2.2.2.2.1) (u.2.2.2.2.2.2.2.2.2.1) (u.2.2.2.2.2.2.2.2.2.2.1) p0_from_things (u.2.2.2.2.2.2.2.2.2.2.2.1) (u.2.2.2.2.2.2.2.2.2.2.2.2.1) (u.2.2.2.2.2.2.2.2.2.2.2.2.2) p1_closed p1_gifts p1_heeds p1_needs p1_placeKinds p1_puts p1_putsInto p1_stepKinds p1_takes p1_takesFrom p1_wants p2_many)) hx hb hr hlocks (by decide) (s30, y2, (1 : Int32), p1_steps, (0 : Int32), s31, s32, s33, s34, s35, s36, s37, s38, s39) hw hP hD hS dX1_make_87
abbrev wld_X1_leadsFrom (cI cJ cZ : ClassId) (h_p0 : Nat) (ad_p0 : Nat → Nat) (p0_made : Int32) (p0_turned : Int32) (p0_steps : Int32) (p0_nexts : Nat → Int32) : va_W := [(h_p0, .inr (1, [.ref (ad_p0 0), .ref (ad_p0 1), .ref (ad_p0 2), .ref (ad_p0 3), .ref (ad_p0 4), .ref (ad_p0 5), .ref (ad_p0 6), .ref (ad_p0 7), .int p0_made, .int p0_turned, .int p0_steps])), ((ad_p0 3), .inl (cI, 128000, .inl p0_nexts))]
abbrev q_X1_leadsFrom (dC : Nat → ClassId) (dI : Nat → Nat → Nat) (cI cJ cZ : ClassId) (h_p0 : Nat) (ad_p0 : Nat → Nat) (p0_made : Int32) (p0_turned : Int32) (p0_steps : Int32) (p0_nexts : Nat → Int32) (post : Int32 → Prop) (A : Nat → Prop) : Array Value → State → Outcome → State → Prop := va_Qi (fun r (u : Unit) => post r ) (fun (u : Unit) t => xPost (dC, dI) A (wld_X1_leadsFrom cI cJ cZ h_p0 ad_p0 p0_made p0_turned p0_steps p0_nexts) t) A
def w_X1_leadsFrom (p0_steps : Int32) (p0_nexts : Nat → Int32) (a1 : Int32) (a2 : Int32) (post : Int32 → Prop) : Prop :=
  vp_in ((a1 * p0_steps) + a2) 128000 ∧
  (post (p0_nexts ((a1 * p0_steps) + a2).toNatClampNeg))
set_option maxHeartbeats 4000000 in
set_option maxRecDepth 100000 in
theorem c_X1_leadsFrom {l : Launch} {dC : Nat → ClassId} {dI : Nat → Nat → Nat} {sz : Nat} {cI cJ cZ : ClassId} {h_p0 : Nat} {ad_p0 : Nat → Nat} {p0_made : Int32} {p0_turned : Int32} {p0_steps : Int32} {p0_nexts : Nat → Int32} {a1 : Int32} {a2 : Int32} {post : Int32 → Prop} (hw : w_X1_leadsFrom p0_steps p0_nexts a1 a2 post) : Met l yX1_leadsFrom wsX1_leadsFrom ({ frames := 0, cells := 0, slots := 0, locals := 0 }) (va_Pc [.ref h_p0, .int a1, .int a2] (xPre (dC, dI) cI cJ cZ (wld_X1_leadsFrom cI cJ cZ h_p0 ad_p0 p0_made p0_turned p0_steps p0_nexts) sz)) (q_X1_leadsFrom dC dI cI cJ cZ h_p0 ad_p0 p0_made p0_turned p0_steps p0_nexts post (va_A (wld_X1_leadsFrom cI cJ cZ h_p0 ad_p0 p0_made p0_turned p0_steps p0_nexts) sz)) 0 0 (va_A (wld_X1_leadsFrom cI cJ cZ h_p0 ad_p0 p0_made p0_turned p0_steps p0_nexts) sz) := by
  refine x_met (cc := cX1_leadsFrom) (maxL := 3) (ret := (some .int)) (own := RX1) (Qc := fun A => (q_X1_leadsFrom dC dI cI cJ cZ h_p0 ad_p0 p0_made p0_turned p0_steps p0_nexts post A)) (by decide) rfl rfl (Nat.le_of_ble_eq_true rfl) ?_
  intro p e s m args below meth c A ls E0 hP hD hS hl
  obtain ⟨hx, hb, hr, hml, hown, hts, hlocks, hK, hA, n1, n2⟩ := id E0
  have iX1 : ∀ w ∈ u_ws RX1 TX1 11, w ∈ wsX1_leadsFrom := fun w h => List.mem_cons_of_mem _ (List.mem_append_right _ h)
  have hS0 := hS
  have hl : lv_has ls 3 [(0, .ref h_p0), (1, .int a1), (2, .int a2)] := hl
  unfold w_X1_leadsFrom at hw
  obtain ⟨H, hH⟩ : ∃ H, H = s.heap := ⟨_, rfl⟩
  have hS : va_S A s.heap H [] := by rw [hH]; exact hS
  have hP : va_P (dC, dI) vwCl (wld_X1_leadsFrom cI cJ cZ h_p0 ad_p0 p0_made p0_turned p0_steps p0_nexts) H := by rw [hH]; exact hP
  suffices hG : W p l e ({ frames := 0, cells := 0, slots := 0, locals := 0 }) s m args below meth c H [] 0 0 (MQ below (q_X1_leadsFrom dC dI cI cJ cZ h_p0 ad_p0 p0_made p0_turned p0_steps p0_nexts post A) args s 0 0 A) (F0 m 0 ls []) by rw [hH] at hG; exact hG
  clear hH
  refine lv_aload_n hx hb dX1_leadsFrom_0 rfl (lv_at hl 0 rfl) ?_
  refine va_get (D := (dC, dI)) (ci := 1) (v := .ref (ad_p0 3)) (C := RX1) (T := TX1) (N := 11) hx hb hts iX1 hown hK hP 0 rfl rfl 3 (by decide) (hts (.fieldLink RX1 31 "NetHouse$Field" "nexts" "[I") (by decide +kernel)) (fun _ h9 => h9) rfl dX1_leadsFrom_1 ?_
  refine lv_iload_n hx hb dX1_leadsFrom_4 rfl (lv_at hl 1 rfl) ?_
  refine lv_aload_n hx hb dX1_leadsFrom_5 rfl (lv_at hl 0 rfl) ?_
  refine va_get (D := (dC, dI)) (ci := 1) (v := .int p0_steps) (C := RX1) (T := TX1) (N := 11) hx hb hts iX1 hown hK hP 0 rfl rfl 10 (by decide) (hts (.fieldLink RX1 54 "NetHouse$Field" "steps" "I") (by decide +kernel)) (fun _ h9 => h9) rfl dX1_leadsFrom_6 ?_
  refine lv_imul hx hb dX1_leadsFrom_9 ?_
  refine lv_iload_n hx hb dX1_leadsFrom_10 rfl (lv_at hl 2 rfl) ?_
  refine lv_iadd hx hb dX1_leadsFrom_11 ?_
  refine va_iald hx hb hK hP 1 0 rfl rfl hw.1 dX1_leadsFrom_12 ?_
  have hw := hw.2
  exact x_iret (w1 := fun (u : Unit) => (wld_X1_leadsFrom cI cJ cZ h_p0 ad_p0 p0_made p0_turned p0_steps p0_nexts)) hx hb hr hlocks () hw hP hD hS dX1_leadsFrom_13
abbrev wld_X1_isDeadAt (cI cJ cZ : ClassId) (h_p0 : Nat) (ad_p0 : Nat → Nat) (p0_made : Int32) (p0_turned : Int32) (p0_steps : Int32) (p0_nexts : Nat → Int32) : va_W := [(h_p0, .inr (1, [.ref (ad_p0 0), .ref (ad_p0 1), .ref (ad_p0 2), .ref (ad_p0 3), .ref (ad_p0 4), .ref (ad_p0 5), .ref (ad_p0 6), .ref (ad_p0 7), .int p0_made, .int p0_turned, .int p0_steps])), ((ad_p0 3), .inl (cI, 128000, .inl p0_nexts))]
abbrev q_X1_isDeadAt (dC : Nat → ClassId) (dI : Nat → Nat → Nat) (cI cJ cZ : ClassId) (h_p0 : Nat) (ad_p0 : Nat → Nat) (p0_made : Int32) (p0_turned : Int32) (p0_steps : Int32) (p0_nexts : Nat → Int32) (post : Int32 → Prop) (A : Nat → Prop) : Array Value → State → Outcome → State → Prop := va_Qi (fun r (u : Unit) => post r ) (fun (u : Unit) t => xPost (dC, dI) A (wld_X1_isDeadAt cI cJ cZ h_p0 ad_p0 p0_made p0_turned p0_steps p0_nexts) t) A
def w_X1_isDeadAt_L2b (v1 : Int32) (p0_steps : Int32) (p0_nexts : Nat → Int32) (post : Int32 → Prop) (K : (Int32) → Prop) (rec : (Int32) → Prop) (v2 : Int32) : Prop :=
    (p0_steps ≤ v2 →
      K v2) ∧
    (¬ p0_steps ≤ v2 →
      w_X1_leadsFrom p0_steps p0_nexts v1 v2 (fun r3 =>
      (r3 < 0 →
        ∀ x6 : Int32, x6 = v2 + (1 : Int32) →
        rec x6) ∧
      (¬ r3 < 0 →
        (post (0 : Int32)))))
def w_X1_isDeadAt_L2 (v1 : Int32) (p0_steps : Int32) (p0_nexts : Nat → Int32) (post : Int32 → Prop) (K : (Int32) → Prop) : Nat → (Int32) → Prop
  | 0, _ => False
  | n + 1, v2 => w_X1_isDeadAt_L2b v1 p0_steps p0_nexts post K (w_X1_isDeadAt_L2 v1 p0_steps p0_nexts post K n) v2
def w_X1_isDeadAt (p0_steps : Int32) (p0_nexts : Nat → Int32) (a1 : Int32) (post : Int32 → Prop) : Prop :=
  ∃ n : Nat, w_X1_isDeadAt_L2 a1 p0_steps p0_nexts post (fun v8 =>
      (post (1 : Int32))) n (0 : Int32)
set_option maxHeartbeats 4000000 in
set_option maxRecDepth 100000 in
theorem c_X1_isDeadAt_L2 {p : Program} {l : Launch} {e : Env} {s : State} {m : MethodId} {args : Array Value} {below : List Frame} {meth : Method} {c : Code} {dC : Nat → ClassId} {dI : Nat → Nat → Nat} {A : Nat → Prop} {cI cJ cZ : ClassId} {h_p0 : Nat} {ad_p0 : Nat → Nat} {p0_made : Int32} {p0_turned : Int32} {p0_steps : Int32} {p0_nexts : Nat → Int32} {v1 : Int32}  {post : Int32 → Prop} {K : (Int32) → Prop} (E0 : xEnv p s m args meth c cX1_isDeadAt (some .boolean) 3 RX1 wsX1_isDeadAt (dC, dI) cI cJ cZ A) (hk : ∀ (v2 : Int32) (H : Heap) (locs : List Loc) (ls : Array Slot), K v2 → va_P (dC, dI) vwCl (wld_X1_isDeadAt cI cJ cZ h_p0 ad_p0 p0_made p0_turned p0_steps p0_nexts) H → va_D A (wld_X1_isDeadAt cI cJ cZ h_p0 ad_p0 p0_made p0_turned p0_steps p0_nexts) → va_S A s.heap H locs → lv_has ls 3 [] → W p l e ({ frames := 1, cells := 0, slots := 0, locals := 22 }) s m args below meth c H locs 0 0 (MQ below (q_X1_isDeadAt dC dI cI cJ cZ h_p0 ad_p0 p0_made p0_turned p0_steps p0_nexts post A) args s 0 0 A) (F0 m 27 ls [])) : ∀ (n : Nat) (v2 : Int32), w_X1_isDeadAt_L2 v1 p0_steps p0_nexts post K n v2 → ∀ (H : Heap) (locs : List Loc) (ls : Array Slot), va_P (dC, dI) vwCl (wld_X1_isDeadAt cI cJ cZ h_p0 ad_p0 p0_made p0_turned p0_steps p0_nexts) H → va_D A (wld_X1_isDeadAt cI cJ cZ h_p0 ad_p0 p0_made p0_turned p0_steps p0_nexts) → va_S A s.heap H locs → lv_has ls 3 [(0, .ref h_p0), (1, .int v1), (2, .int v2)] → W p l e ({ frames := 1, cells := 0, slots := 0, locals := 22 }) s m args below meth c H locs 0 0 (MQ below (q_X1_isDeadAt dC dI cI cJ cZ h_p0 ad_p0 p0_made p0_turned p0_steps p0_nexts post A) args s 0 0 A) (F0 m 2 ls []) := by
  obtain ⟨hx, hb, hr, hml, hown, hts, hlocks, hK, hA, n1, n2⟩ := id E0
  have iX1 : ∀ w ∈ u_ws RX1 TX1 11, w ∈ wsX1_isDeadAt := fun w h => List.mem_cons_of_mem _ (List.mem_append_right _ h)
  intro n
  induction n with
  | zero => intro v2 hw; exact hw.elim
  | succ n ih =>
    intro v2 hw H locs ls hP hD hS hl
    have hw : w_X1_isDeadAt_L2b v1 p0_steps p0_nexts post K (w_X1_isDeadAt_L2 v1 p0_steps p0_nexts post K n) v2 := hw
    unfold w_X1_isDeadAt_L2b at hw
    refine lv_iload_n hx hb dX1_isDeadAt_2 rfl (lv_at hl 2 rfl) ?_
    refine lv_aload_n hx hb dX1_isDeadAt_3 rfl (lv_at hl 0 rfl) ?_
    refine va_get (D := (dC, dI)) (ci := 1) (v := .int p0_steps) (C := RX1) (T := TX1) (N := 11) hx hb hts iX1 hown hK hP 0 rfl rfl 10 (by decide) (hts (.fieldLink RX1 54 "NetHouse$Field" "steps" "I") (by decide +kernel)) (fun _ h9 => h9) rfl dX1_isDeadAt_4 ?_
    refine lv_icmp_ge (tgt := 27) hx hb dX1_isDeadAt_7 (by decide) (fun c1 => ?_) (fun c2 => ?_)
    · have hw := hw.1 c1
      exact hk _ _ _ _ hw hP hD hS (lv_sub hl [] rfl)
    · have hw := hw.2 c2
      refine lv_aload_n hx hb dX1_isDeadAt_10 rfl (lv_at hl 0 rfl) ?_
      refine lv_iload_n hx hb dX1_isDeadAt_11 rfl (lv_at hl 1 rfl) ?_
      refine lv_iload_n hx hb dX1_isDeadAt_12 rfl (lv_at hl 2 rfl) ?_
      obtain ⟨hPc, hDc⟩ := x_sub (wc := (wld_X1_leadsFrom cI cJ cZ h_p0 ad_p0 p0_made p0_turned p0_steps p0_nexts)) hP hD [0, 1] (n := 2) rfl rfl (by decide +kernel)
      refine x_calli (ws' := fun (u : Unit) => (wld_X1_isDeadAt cI cJ cZ h_p0 ad_p0 p0_made p0_turned p0_steps p0_nexts)) hP hD hS hA [0, 1] [] [0, 1] (n := 2) (k := 2) rfl (fun _ => rfl) rfl (by decide +kernel) (fun _ => rfl) (va_runV (As := [.int v1, .int v2]) (rest := []) ⟨hx, hb, hml, hown, hts⟩ (c_X1_leadsFrom (l := l) (dC := dC) (dI := dI) (cI := cI) (cJ := cJ) (cZ := cZ) (sz := H.size) (h_p0 := h_p0) (ad_p0 := ad_p0) (p0_made := p0_made) (p0_turned := p0_turned) (p0_steps := p0_steps) (p0_nexts := p0_nexts) hw) (cwV 2 hts gX1_isDeadAt_X1_leadsFrom rfl rfl rfl (by decide +kernel) ⟨Nat.le_of_ble_eq_true rfl, Nat.le_of_ble_eq_true rfl⟩) ⟨xPre_blind, va_recv hK hP (ci := 1) (q0 := 0) rfl rfl, xPre_at hK hPc hDc n1 n2⟩ rfl rfl hl.1 rfl (lv_room (Nat.le_of_ble_eq_true rfl)) dX1_isDeadAt_13 ⟨Nat.zero_le _, Nat.zero_le _⟩) (fun r3 u H locs hw hP hD hS => ?_)
      try dsimp only at hw
      have hP : va_P (dC, dI) vwCl (wld_X1_isDeadAt cI cJ cZ h_p0 ad_p0 p0_made p0_turned p0_steps p0_nexts) H := hP
      have hD : va_D A (wld_X1_isDeadAt cI cJ cZ h_p0 ad_p0 p0_made p0_turned p0_steps p0_nexts) := hD
      refine lv_if_lt (tgt := 21) hx hb dX1_isDeadAt_16 (by decide) (fun c4 => ?_) (fun c5 => ?_)
      · have hw := hw.1 c4
        obtain ⟨x6, ex6⟩ : ∃ y : Int32, y = v2 + (1 : Int32) := ⟨_, rfl⟩
        have hw := hw x6 ex6
        refine lv_iinc (v := x6) (lv' := [(2, .int x6), (0, .ref h_p0), (1, .int v1)]) hx hb dX1_isDeadAt_21 hl (k := 2) rfl (by rw [ex6]; rfl) (by decide) rfl (fun ls hl => ?_)
        refine lv_goto (tgt := 2) hx hb dX1_isDeadAt_24 (by decide) ?_
        exact ih _ hw _ _ _ hP hD hS (lv_sub hl [1, 2, 0] rfl)
      · have hw := hw.2 c5
        refine lv_iconst (v := 0) hx hb dX1_isDeadAt_19 (by decide) ?_
        exact x_zret (w1 := fun (u : Unit) => (wld_X1_isDeadAt cI cJ cZ h_p0 ad_p0 p0_made p0_turned p0_steps p0_nexts)) hx hb hr hlocks (by decide) () hw hP hD hS dX1_isDeadAt_20
set_option maxHeartbeats 4000000 in
set_option maxRecDepth 100000 in
theorem c_X1_isDeadAt {l : Launch} {dC : Nat → ClassId} {dI : Nat → Nat → Nat} {sz : Nat} {cI cJ cZ : ClassId} {h_p0 : Nat} {ad_p0 : Nat → Nat} {p0_made : Int32} {p0_turned : Int32} {p0_steps : Int32} {p0_nexts : Nat → Int32} {a1 : Int32} {post : Int32 → Prop} (hw : w_X1_isDeadAt p0_steps p0_nexts a1 post) : Met l yX1_isDeadAt wsX1_isDeadAt ({ frames := 1, cells := 0, slots := 0, locals := 22 }) (va_Pc [.ref h_p0, .int a1] (xPre (dC, dI) cI cJ cZ (wld_X1_isDeadAt cI cJ cZ h_p0 ad_p0 p0_made p0_turned p0_steps p0_nexts) sz)) (q_X1_isDeadAt dC dI cI cJ cZ h_p0 ad_p0 p0_made p0_turned p0_steps p0_nexts post (va_A (wld_X1_isDeadAt cI cJ cZ h_p0 ad_p0 p0_made p0_turned p0_steps p0_nexts) sz)) 0 0 (va_A (wld_X1_isDeadAt cI cJ cZ h_p0 ad_p0 p0_made p0_turned p0_steps p0_nexts) sz) := by
  refine x_met (cc := cX1_isDeadAt) (maxL := 3) (ret := (some .boolean)) (own := RX1) (Qc := fun A => (q_X1_isDeadAt dC dI cI cJ cZ h_p0 ad_p0 p0_made p0_turned p0_steps p0_nexts post A)) (by decide) rfl rfl (Nat.le_of_ble_eq_true rfl) ?_
  intro p e s m args below meth c A ls E0 hP hD hS hl
  obtain ⟨hx, hb, hr, hml, hown, hts, hlocks, hK, hA, n1, n2⟩ := id E0
  have iX1 : ∀ w ∈ u_ws RX1 TX1 11, w ∈ wsX1_isDeadAt := fun w h => List.mem_cons_of_mem _ (List.mem_append_right _ h)
  have hS0 := hS
  have hl : lv_has ls 3 [(0, .ref h_p0), (1, .int a1)] := hl
  unfold w_X1_isDeadAt at hw
  obtain ⟨H, hH⟩ : ∃ H, H = s.heap := ⟨_, rfl⟩
  have hS : va_S A s.heap H [] := by rw [hH]; exact hS
  have hP : va_P (dC, dI) vwCl (wld_X1_isDeadAt cI cJ cZ h_p0 ad_p0 p0_made p0_turned p0_steps p0_nexts) H := by rw [hH]; exact hP
  suffices hG : W p l e ({ frames := 1, cells := 0, slots := 0, locals := 22 }) s m args below meth c H [] 0 0 (MQ below (q_X1_isDeadAt dC dI cI cJ cZ h_p0 ad_p0 p0_made p0_turned p0_steps p0_nexts post A) args s 0 0 A) (F0 m 0 ls []) by rw [hH] at hG; exact hG
  clear hH
  refine lv_iconst (v := 0) hx hb dX1_isDeadAt_0 (by decide) ?_
  refine lv_istore_n (lv' := [(2, .int (0 : Int32)), (0, .ref h_p0), (1, .int a1)]) hx hb dX1_isDeadAt_1 rfl hl (by decide) rfl (fun ls hl => ?_)
  obtain ⟨n7, hw⟩ := hw
  refine c_X1_isDeadAt_L2 (l := l)  E0 ?_ n7 _ hw _ _ _ hP hD hS (lv_sub hl [1, 2, 0] rfl)
  · intro v8 H locs ls hw hP hD hS hl
    have hP : va_P (dC, dI) vwCl (wld_X1_isDeadAt cI cJ cZ h_p0 ad_p0 p0_made p0_turned p0_steps p0_nexts) H := hP
    have hD : va_D A (wld_X1_isDeadAt cI cJ cZ h_p0 ad_p0 p0_made p0_turned p0_steps p0_nexts) := hD
    refine lv_iconst (v := 1) hx hb dX1_isDeadAt_27 (by decide) ?_
    exact x_zret (w1 := fun (u : Unit) => (wld_X1_isDeadAt cI cJ cZ h_p0 ad_p0 p0_made p0_turned p0_steps p0_nexts)) hx hb hr hlocks (by decide) () hw hP hD hS dX1_isDeadAt_28
abbrev wld_X1_deadOne (cI cJ cZ : ClassId) (h_p0 : Nat) (ad_p0 : Nat → Nat) (ad_p0_all : Nat → Nat) (p0_made : Int32) (p0_turned : Int32) (p0_steps : Int32) (p0_all_width : Int32) (p0_all_size : Int32) (p0_nexts : Nat → Int32) : va_W := [(h_p0, .inr (1, [.ref (ad_p0 0), .ref (ad_p0 1), .ref (ad_p0 2), .ref (ad_p0 3), .ref (ad_p0 4), .ref (ad_p0 5), .ref (ad_p0 6), .ref (ad_p0 7), .int p0_made, .int p0_turned, .int p0_steps])), ((ad_p0 0), .inr (4, [.ref (ad_p0_all 0), .ref (ad_p0_all 1), .ref (ad_p0_all 2), .ref (ad_p0_all 3), .ref (ad_p0_all 4), .int p0_all_width, .int p0_all_size])), ((ad_p0 3), .inl (cI, 128000, .inl p0_nexts))]
abbrev q_X1_deadOne (dC : Nat → ClassId) (dI : Nat → Nat → Nat) (cI cJ cZ : ClassId) (h_p0 : Nat) (ad_p0 : Nat → Nat) (ad_p0_all : Nat → Nat) (p0_made : Int32) (p0_turned : Int32) (p0_steps : Int32) (p0_all_width : Int32) (p0_all_size : Int32) (p0_nexts : Nat → Int32) (post : Int32 → Prop) (A : Nat → Prop) : Array Value → State → Outcome → State → Prop := va_Qi (fun r (u : Unit) => post r ) (fun (u : Unit) t => xPost (dC, dI) A (wld_X1_deadOne cI cJ cZ h_p0 ad_p0 ad_p0_all p0_made p0_turned p0_steps p0_all_width p0_all_size p0_nexts) t) A
def w_X1_deadOne_L4b (v1 : Int32) (p0_all_size : Int32) (p0_steps : Int32) (p0_nexts : Nat → Int32) (post : Int32 → Prop) (K : (Int32) → (Int32) → Prop) (rec : (Int32) → (Int32) → Prop) (v2 : Int32) (v3 : Int32) : Prop :=
    (p0_all_size ≤ v3 →
      K v2 v3) ∧
    (¬ p0_all_size ≤ v3 →
      w_X1_isDeadAt p0_steps p0_nexts v3 (fun r3 =>
      (r3 = 0 →
        ∀ x6 : Int32, x6 = v3 + (1 : Int32) →
        rec v2 x6) ∧
      (¬ r3 = 0 →
        (¬ v2 = v1 →
          ∀ x9 : Int32, x9 = v2 + (1 : Int32) →
          ∀ x10 : Int32, x10 = v3 + (1 : Int32) →
          rec x9 x10) ∧
        (v2 = v1 →
          (post v3)))))
def w_X1_deadOne_L4 (v1 : Int32) (p0_all_size : Int32) (p0_steps : Int32) (p0_nexts : Nat → Int32) (post : Int32 → Prop) (K : (Int32) → (Int32) → Prop) : Nat → (Int32) → (Int32) → Prop
  | 0, _, _ => False
  | n + 1, v2, v3 => w_X1_deadOne_L4b v1 p0_all_size p0_steps p0_nexts post K (w_X1_deadOne_L4 v1 p0_all_size p0_steps p0_nexts post K n) v2 v3
def w_X1_deadOne (p0_all_size : Int32) (p0_steps : Int32) (p0_nexts : Nat → Int32) (a1 : Int32) (post : Int32 → Prop) : Prop :=
  ∃ n : Nat, w_X1_deadOne_L4 a1 p0_all_size p0_steps p0_nexts post (fun v12 v13 =>
      (post (-2000000005 : Int32))) n (0 : Int32) (0 : Int32)
set_option maxHeartbeats 4000000 in
set_option maxRecDepth 100000 in
theorem c_X1_deadOne_L4 {p : Program} {l : Launch} {e : Env} {s : State} {m : MethodId} {args : Array Value} {below : List Frame} {meth : Method} {c : Code} {dC : Nat → ClassId} {dI : Nat → Nat → Nat} {A : Nat → Prop} {cI cJ cZ : ClassId} {h_p0 : Nat} {ad_p0 : Nat → Nat} {ad_p0_all : Nat → Nat} {p0_made : Int32} {p0_turned : Int32} {p0_steps : Int32} {p0_all_width : Int32} {p0_all_size : Int32} {p0_nexts : Nat → Int32} {v1 : Int32}  {post : Int32 → Prop} {K : (Int32) → (Int32) → Prop} (E0 : xEnv p s m args meth c cX1_deadOne (some .int) 4 RX1 wsX1_deadOne (dC, dI) cI cJ cZ A) (hk : ∀ (v2 : Int32) (v3 : Int32) (H : Heap) (locs : List Loc) (ls : Array Slot), K v2 v3 → va_P (dC, dI) vwCl (wld_X1_deadOne cI cJ cZ h_p0 ad_p0 ad_p0_all p0_made p0_turned p0_steps p0_all_width p0_all_size p0_nexts) H → va_D A (wld_X1_deadOne cI cJ cZ h_p0 ad_p0 ad_p0_all p0_made p0_turned p0_steps p0_all_width p0_all_size p0_nexts) → va_S A s.heap H locs → lv_has ls 4 [] → W p l e ({ frames := 2, cells := 0, slots := 0, locals := 44 }) s m args below meth c H locs 0 0 (MQ below (q_X1_deadOne dC dI cI cJ cZ h_p0 ad_p0 ad_p0_all p0_made p0_turned p0_steps p0_all_width p0_all_size p0_nexts post A) args s 0 0 A) (F0 m 39 ls [])) : ∀ (n : Nat) (v2 : Int32) (v3 : Int32), w_X1_deadOne_L4 v1 p0_all_size p0_steps p0_nexts post K n v2 v3 → ∀ (H : Heap) (locs : List Loc) (ls : Array Slot), va_P (dC, dI) vwCl (wld_X1_deadOne cI cJ cZ h_p0 ad_p0 ad_p0_all p0_made p0_turned p0_steps p0_all_width p0_all_size p0_nexts) H → va_D A (wld_X1_deadOne cI cJ cZ h_p0 ad_p0 ad_p0_all p0_made p0_turned p0_steps p0_all_width p0_all_size p0_nexts) → va_S A s.heap H locs → lv_has ls 4 [(0, .ref h_p0), (1, .int v1), (2, .int v2), (3, .int v3)] → W p l e ({ frames := 2, cells := 0, slots := 0, locals := 44 }) s m args below meth c H locs 0 0 (MQ below (q_X1_deadOne dC dI cI cJ cZ h_p0 ad_p0 ad_p0_all p0_made p0_turned p0_steps p0_all_width p0_all_size p0_nexts post A) args s 0 0 A) (F0 m 4 ls []) := by
  obtain ⟨hx, hb, hr, hml, hown, hts, hlocks, hK, hA, n1, n2⟩ := id E0
  have iX1 : ∀ w ∈ u_ws RX1 TX1 11, w ∈ wsX1_deadOne := fun w h => List.mem_cons_of_mem _ (List.mem_append_left _ (List.mem_append_right _ h))
  have iX4 : ∀ w ∈ u_ws RX4 TX4 7, w ∈ wsX1_deadOne := fun w h => List.mem_cons_of_mem _ (List.mem_append_right _ h)
  intro n
  induction n with
  | zero => intro v2 v3 hw; exact hw.elim
  | succ n ih =>
    intro v2 v3 hw H locs ls hP hD hS hl
    have hw : w_X1_deadOne_L4b v1 p0_all_size p0_steps p0_nexts post K (w_X1_deadOne_L4 v1 p0_all_size p0_steps p0_nexts post K n) v2 v3 := hw
    unfold w_X1_deadOne_L4b at hw
    refine lv_iload_n hx hb dX1_deadOne_4 rfl (lv_at hl 3 rfl) ?_
    refine lv_aload_n hx hb dX1_deadOne_5 rfl (lv_at hl 0 rfl) ?_
    refine va_get (D := (dC, dI)) (ci := 1) (v := .ref (ad_p0 0)) (C := RX1) (T := TX1) (N := 11) hx hb hts iX1 hown hK hP 0 rfl rfl 0 (by decide) (hts (.fieldLink RX1 14 "NetHouse$Field" "all" "LNetHouse$Markings;") (by decide +kernel)) (fun _ h9 => h9) rfl dX1_deadOne_6 ?_
    refine va_get (D := (dC, dI)) (ci := 4) (v := .int p0_all_size) (C := RX4) (T := TX4) (N := 7) hx hb hts iX4 hown hK hP 1 rfl rfl 6 (by decide) (hts (.fieldLink RX1 59 "NetHouse$Markings" "size" "I") (by decide +kernel)) (fun _ h9 => h9) rfl dX1_deadOne_9 ?_
    refine lv_icmp_ge (tgt := 39) hx hb dX1_deadOne_12 (by decide) (fun c1 => ?_) (fun c2 => ?_)
    · have hw := hw.1 c1
      exact hk _ _ _ _ _ hw hP hD hS (lv_sub hl [] rfl)
    · have hw := hw.2 c2
      refine lv_aload_n hx hb dX1_deadOne_15 rfl (lv_at hl 0 rfl) ?_
      refine lv_iload_n hx hb dX1_deadOne_16 rfl (lv_at hl 3 rfl) ?_
      obtain ⟨hPc, hDc⟩ := x_sub (wc := (wld_X1_isDeadAt cI cJ cZ h_p0 ad_p0 p0_made p0_turned p0_steps p0_nexts)) hP hD [0, 2] (n := 3) rfl rfl (by decide +kernel)
      refine x_calli (ws' := fun (u : Unit) => (wld_X1_deadOne cI cJ cZ h_p0 ad_p0 ad_p0_all p0_made p0_turned p0_steps p0_all_width p0_all_size p0_nexts)) hP hD hS hA [0, 2] [1] [1, 0, 2] (n := 3) (k := 2) rfl (fun _ => rfl) rfl (by decide +kernel) (fun _ => rfl) (va_runV (As := [.int v3]) (rest := []) ⟨hx, hb, hml, hown, hts⟩ (c_X1_isDeadAt (l := l) (dC := dC) (dI := dI) (cI := cI) (cJ := cJ) (cZ := cZ) (sz := H.size) (h_p0 := h_p0) (ad_p0 := ad_p0) (p0_made := p0_made) (p0_turned := p0_turned) (p0_steps := p0_steps) (p0_nexts := p0_nexts) hw) (cwV 1 hts gX1_deadOne_X1_isDeadAt rfl rfl rfl (by decide +kernel) ⟨Nat.le_of_ble_eq_true rfl, Nat.le_of_ble_eq_true rfl⟩) ⟨xPre_blind, va_recv hK hP (ci := 1) (q0 := 0) rfl rfl, xPre_at hK hPc hDc n1 n2⟩ rfl rfl hl.1 rfl (lv_room (Nat.le_of_ble_eq_true rfl)) dX1_deadOne_17 ⟨Nat.zero_le _, Nat.zero_le _⟩) (fun r3 u H locs hw hP hD hS => ?_)
      try dsimp only at hw
      have hP : va_P (dC, dI) vwCl (wld_X1_deadOne cI cJ cZ h_p0 ad_p0 ad_p0_all p0_made p0_turned p0_steps p0_all_width p0_all_size p0_nexts) H := hP
      have hD : va_D A (wld_X1_deadOne cI cJ cZ h_p0 ad_p0 ad_p0_all p0_made p0_turned p0_steps p0_all_width p0_all_size p0_nexts) := hD
      refine lv_if_eq (tgt := 33) hx hb dX1_deadOne_20 (by decide) (fun c4 => ?_) (fun c5 => ?_)
      · have hw := hw.1 c4
        obtain ⟨x6, ex6⟩ : ∃ y : Int32, y = v3 + (1 : Int32) := ⟨_, rfl⟩
        have hw := hw x6 ex6
        refine lv_iinc (v := x6) (lv' := [(3, .int x6), (0, .ref h_p0), (1, .int v1), (2, .int v2)]) hx hb dX1_deadOne_33 hl (k := 3) rfl (by rw [ex6]; rfl) (by decide) rfl (fun ls hl => ?_)
        refine lv_goto (tgt := 4) hx hb dX1_deadOne_36 (by decide) ?_
        exact ih _ _ hw _ _ _ hP hD hS (lv_sub hl [1, 2, 3, 0] rfl)
      · have hw := hw.2 c5
        refine lv_iload_n hx hb dX1_deadOne_23 rfl (lv_at hl 2 rfl) ?_
        refine lv_iload_n hx hb dX1_deadOne_24 rfl (lv_at hl 1 rfl) ?_
        refine lv_icmp_ne (tgt := 30) hx hb dX1_deadOne_25 (by decide) (fun c7 => ?_) (fun c8 => ?_)
        · have hw := hw.1 c7
          obtain ⟨x9, ex9⟩ : ∃ y : Int32, y = v2 + (1 : Int32) := ⟨_, rfl⟩
          have hw := hw x9 ex9
          refine lv_iinc (v := x9) (lv' := [(2, .int x9), (0, .ref h_p0), (1, .int v1), (3, .int v3)]) hx hb dX1_deadOne_30 hl (k := 2) rfl (by rw [ex9]; rfl) (by decide) rfl (fun ls hl => ?_)
          obtain ⟨x10, ex10⟩ : ∃ y : Int32, y = v3 + (1 : Int32) := ⟨_, rfl⟩
          have hw := hw x10 ex10
          refine lv_iinc (v := x10) (lv' := [(3, .int x10), (2, .int x9), (0, .ref h_p0), (1, .int v1)]) hx hb dX1_deadOne_33 hl (k := 3) rfl (by rw [ex10]; rfl) (by decide) rfl (fun ls hl => ?_)
          refine lv_goto (tgt := 4) hx hb dX1_deadOne_36 (by decide) ?_
          exact ih _ _ hw _ _ _ hP hD hS (lv_sub hl [2, 3, 1, 0] rfl)
        · have hw := hw.2 c8
          refine lv_iload_n hx hb dX1_deadOne_28 rfl (lv_at hl 3 rfl) ?_
          exact x_iret (w1 := fun (u : Unit) => (wld_X1_deadOne cI cJ cZ h_p0 ad_p0 ad_p0_all p0_made p0_turned p0_steps p0_all_width p0_all_size p0_nexts)) hx hb hr hlocks () hw hP hD hS dX1_deadOne_29
set_option maxHeartbeats 4000000 in
set_option maxRecDepth 100000 in
theorem c_X1_deadOne {l : Launch} {dC : Nat → ClassId} {dI : Nat → Nat → Nat} {sz : Nat} {cI cJ cZ : ClassId} {h_p0 : Nat} {ad_p0 : Nat → Nat} {ad_p0_all : Nat → Nat} {p0_made : Int32} {p0_turned : Int32} {p0_steps : Int32} {p0_all_width : Int32} {p0_all_size : Int32} {p0_nexts : Nat → Int32} {a1 : Int32} {post : Int32 → Prop} (hw : w_X1_deadOne p0_all_size p0_steps p0_nexts a1 post) : Met l yX1_deadOne wsX1_deadOne ({ frames := 2, cells := 0, slots := 0, locals := 44 }) (va_Pc [.ref h_p0, .int a1] (xPre (dC, dI) cI cJ cZ (wld_X1_deadOne cI cJ cZ h_p0 ad_p0 ad_p0_all p0_made p0_turned p0_steps p0_all_width p0_all_size p0_nexts) sz)) (q_X1_deadOne dC dI cI cJ cZ h_p0 ad_p0 ad_p0_all p0_made p0_turned p0_steps p0_all_width p0_all_size p0_nexts post (va_A (wld_X1_deadOne cI cJ cZ h_p0 ad_p0 ad_p0_all p0_made p0_turned p0_steps p0_all_width p0_all_size p0_nexts) sz)) 0 0 (va_A (wld_X1_deadOne cI cJ cZ h_p0 ad_p0 ad_p0_all p0_made p0_turned p0_steps p0_all_width p0_all_size p0_nexts) sz) := by
  refine x_met (cc := cX1_deadOne) (maxL := 4) (ret := (some .int)) (own := RX1) (Qc := fun A => (q_X1_deadOne dC dI cI cJ cZ h_p0 ad_p0 ad_p0_all p0_made p0_turned p0_steps p0_all_width p0_all_size p0_nexts post A)) (by decide) rfl rfl (Nat.le_of_ble_eq_true rfl) ?_
  intro p e s m args below meth c A ls E0 hP hD hS hl
  obtain ⟨hx, hb, hr, hml, hown, hts, hlocks, hK, hA, n1, n2⟩ := id E0
  have iX1 : ∀ w ∈ u_ws RX1 TX1 11, w ∈ wsX1_deadOne := fun w h => List.mem_cons_of_mem _ (List.mem_append_left _ (List.mem_append_right _ h))
  have iX4 : ∀ w ∈ u_ws RX4 TX4 7, w ∈ wsX1_deadOne := fun w h => List.mem_cons_of_mem _ (List.mem_append_right _ h)
  have hS0 := hS
  have hl : lv_has ls 4 [(0, .ref h_p0), (1, .int a1)] := hl
  unfold w_X1_deadOne at hw
  obtain ⟨H, hH⟩ : ∃ H, H = s.heap := ⟨_, rfl⟩
  have hS : va_S A s.heap H [] := by rw [hH]; exact hS
  have hP : va_P (dC, dI) vwCl (wld_X1_deadOne cI cJ cZ h_p0 ad_p0 ad_p0_all p0_made p0_turned p0_steps p0_all_width p0_all_size p0_nexts) H := by rw [hH]; exact hP
  suffices hG : W p l e ({ frames := 2, cells := 0, slots := 0, locals := 44 }) s m args below meth c H [] 0 0 (MQ below (q_X1_deadOne dC dI cI cJ cZ h_p0 ad_p0 ad_p0_all p0_made p0_turned p0_steps p0_all_width p0_all_size p0_nexts post A) args s 0 0 A) (F0 m 0 ls []) by rw [hH] at hG; exact hG
  clear hH
  refine lv_iconst (v := 0) hx hb dX1_deadOne_0 (by decide) ?_
  refine lv_istore_n (lv' := [(2, .int (0 : Int32)), (0, .ref h_p0), (1, .int a1)]) hx hb dX1_deadOne_1 rfl hl (by decide) rfl (fun ls hl => ?_)
  refine lv_iconst (v := 0) hx hb dX1_deadOne_2 (by decide) ?_
  refine lv_istore_n (lv' := [(3, .int (0 : Int32)), (2, .int (0 : Int32)), (0, .ref h_p0), (1, .int a1)]) hx hb dX1_deadOne_3 rfl hl (by decide) rfl (fun ls hl => ?_)
  obtain ⟨n11, hw⟩ := hw
  refine c_X1_deadOne_L4 (l := l)  E0 ?_ n11 _ _ hw _ _ _ hP hD hS (lv_sub hl [2, 3, 1, 0] rfl)
  · intro v12 v13 H locs ls hw hP hD hS hl
    have hP : va_P (dC, dI) vwCl (wld_X1_deadOne cI cJ cZ h_p0 ad_p0 ad_p0_all p0_made p0_turned p0_steps p0_all_width p0_all_size p0_nexts) H := hP
    have hD : va_D A (wld_X1_deadOne cI cJ cZ h_p0 ad_p0 ad_p0_all p0_made p0_turned p0_steps p0_all_width p0_all_size p0_nexts) := hD
    refine lv_ldc (v := -2000000005) hx hb hown (hts (.constant RX1 72 (-2000000005)) (by decide +kernel)) dX1_deadOne_39 ?_
    exact x_iret (w1 := fun (u : Unit) => (wld_X1_deadOne cI cJ cZ h_p0 ad_p0 ad_p0_all p0_made p0_turned p0_steps p0_all_width p0_all_size p0_nexts)) hx hb hr hlocks () hw hP hD hS dX1_deadOne_41
abbrev wld_X1_queueThoseBefore (cI cJ cZ : ClassId) (h_p0 : Nat) (ad_p0 : Nat → Nat) (ad_p0_all : Nat → Nat) (p0_made : Int32) (p0_turned : Int32) (p0_steps : Int32) (p0_all_width : Int32) (p0_all_size : Int32) (p0_firstIn : Nat → Int32) (p0_leads : Nat → Int32) (p0_otherIn : Nat → Int32) (p0_queue : Nat → Int32) : va_W := [(h_p0, .inr (1, [.ref (ad_p0 0), .ref (ad_p0 1), .ref (ad_p0 2), .ref (ad_p0 3), .ref (ad_p0 4), .ref (ad_p0 5), .ref (ad_p0 6), .ref (ad_p0 7), .int p0_made, .int p0_turned, .int p0_steps])), ((ad_p0 0), .inr (4, [.ref (ad_p0_all 0), .ref (ad_p0_all 1), .ref (ad_p0_all 2), .ref (ad_p0_all 3), .ref (ad_p0_all 4), .int p0_all_width, .int p0_all_size])), ((ad_p0 4), .inl (cI, 8000, .inl p0_firstIn)), ((ad_p0 7), .inl (cI, 8000, .inl p0_leads)), ((ad_p0 5), .inl (cI, 128000, .inl p0_otherIn)), ((ad_p0 6), .inl (cI, 8000, .inl p0_queue))]
abbrev q_X1_queueThoseBefore (dC : Nat → ClassId) (dI : Nat → Nat → Nat) (cI cJ cZ : ClassId) (h_p0 : Nat) (ad_p0 : Nat → Nat) (ad_p0_all : Nat → Nat) (p0_made : Int32) (p0_turned : Int32) (p0_steps : Int32) (p0_all_width : Int32) (p0_all_size : Int32) (p0_firstIn : Nat → Int32) (p0_leads : Nat → Int32) (p0_otherIn : Nat → Int32) (p0_queue : Nat → Int32) (post : Int32 → (Nat → Int32) → (Nat → Int32) → Prop) (A : Nat → Prop) : Array Value → State → Outcome → State → Prop := va_Qi (fun r (u : (Nat → Int32) × (Nat → Int32)) => post r (u.1) (u.2)) (fun (u : (Nat → Int32) × (Nat → Int32)) t => xPost (dC, dI) A (wld_X1_queueThoseBefore cI cJ cZ h_p0 ad_p0 ad_p0_all p0_made p0_turned p0_steps p0_all_width p0_all_size p0_firstIn (u.1) p0_otherIn (u.2)) t) A
def w_X1_queueThoseBefore_L24b (p0_all_size : Int32) (p0_steps : Int32) (p0_firstIn : Nat → Int32) (p0_otherIn : Nat → Int32) (post : Int32 → (Nat → Int32) → (Nat → Int32) → Prop) (K : (Int32) → (Int32) → (Int32) → (Nat → Int32) → (Nat → Int32) → Prop) (rec : (Int32) → (Int32) → (Int32) → (Nat → Int32) → (Nat → Int32) → Prop) (v3 : Int32) (v4 : Int32) (v5 : Int32) (p0_leads : Nat → Int32) (p0_queue : Nat → Int32) : Prop :=
    (v5 ≤ 0 →
      K v3 v4 v5 p0_leads p0_queue) ∧
    (¬ v5 ≤ 0 →
      (v4 < 0 →
        K v3 v4 v5 p0_leads p0_queue) ∧
      (¬ v4 < 0 →
        (p0_steps ≤ 0 →
          vp_in (0 : Int32) 8000 ∧
          (¬ (p0_leads (0 : Int32).toNatClampNeg) = 0 →
            vp_in v4 128000 ∧
            ∀ x11 : Int32, x11 = (p0_otherIn v4.toNatClampNeg) →
            ∀ x12 : Int32, x12 = v5 + (-1 : Int32) →
            rec v3 x11 x12 p0_leads p0_queue) ∧
          ((p0_leads (0 : Int32).toNatClampNeg) = 0 →
            vp_in (0 : Int32) 8000 ∧
            vp_in v3 8000 ∧
            ∀ x13 : Int32, x13 = v3 + (1 : Int32) →
            vp_in v4 128000 ∧
            ∀ x14 : Int32, x14 = (p0_otherIn v4.toNatClampNeg) →
            ∀ x15 : Int32, x15 = v5 + (-1 : Int32) →
            rec x13 x14 x15 (upd p0_leads (0 : Int32).toNatClampNeg (1 : Int32)) (upd p0_queue v3.toNatClampNeg (0 : Int32)))) ∧
        (¬ p0_steps ≤ 0 →
          ¬ p0_steps = 0 ∧
          ∀ x16 : Int32, x16 = (v4 / p0_steps) →
          vp_in x16 8000 ∧
          (¬ (p0_leads x16.toNatClampNeg) = 0 →
            vp_in v4 128000 ∧
            ∀ x19 : Int32, x19 = (p0_otherIn v4.toNatClampNeg) →
            ∀ x20 : Int32, x20 = v5 + (-1 : Int32) →
            rec v3 x19 x20 p0_leads p0_queue) ∧
          ((p0_leads x16.toNatClampNeg) = 0 →
            vp_in x16 8000 ∧
            vp_in v3 8000 ∧
            ∀ x21 : Int32, x21 = v3 + (1 : Int32) →
            vp_in v4 128000 ∧
            ∀ x22 : Int32, x22 = (p0_otherIn v4.toNatClampNeg) →
            ∀ x23 : Int32, x23 = v5 + (-1 : Int32) →
            rec x21 x22 x23 (upd p0_leads x16.toNatClampNeg (1 : Int32)) (upd p0_queue v3.toNatClampNeg x16)))))
def w_X1_queueThoseBefore_L24 (p0_all_size : Int32) (p0_steps : Int32) (p0_firstIn : Nat → Int32) (p0_otherIn : Nat → Int32) (post : Int32 → (Nat → Int32) → (Nat → Int32) → Prop) (K : (Int32) → (Int32) → (Int32) → (Nat → Int32) → (Nat → Int32) → Prop) : Nat → (Int32) → (Int32) → (Int32) → (Nat → Int32) → (Nat → Int32) → Prop
  | 0, _, _, _, _, _ => False
  | n + 1, v3, v4, v5, p0_leads, p0_queue => w_X1_queueThoseBefore_L24b p0_all_size p0_steps p0_firstIn p0_otherIn post K (w_X1_queueThoseBefore_L24 p0_all_size p0_steps p0_firstIn p0_otherIn post K n) v3 v4 v5 p0_leads p0_queue
def w_X1_queueThoseBefore (p0_all_size : Int32) (p0_steps : Int32) (p0_firstIn : Nat → Int32) (p0_leads : Nat → Int32) (p0_otherIn : Nat → Int32) (p0_queue : Nat → Int32) (a1 : Int32) (a2 : Int32) (post : Int32 → (Nat → Int32) → (Nat → Int32) → Prop) : Prop :=
  vp_in a1 8000 ∧
  ∀ x1 : Int32, x1 = (p0_firstIn a1.toNatClampNeg) →
  ∀ x2 : Int32, x2 = (p0_all_size * p0_steps) →
  ∃ n : Nat, w_X1_queueThoseBefore_L24 p0_all_size p0_steps p0_firstIn p0_otherIn post (fun v25 v26 v27 s28 s29 =>
      (post v25 s28 s29)) n a2 x1 x2 p0_leads p0_queue
set_option maxHeartbeats 4000000 in
set_option maxRecDepth 100000 in
theorem c_X1_queueThoseBefore_L24 {p : Program} {l : Launch} {e : Env} {s : State} {m : MethodId} {args : Array Value} {below : List Frame} {meth : Method} {c : Code} {dC : Nat → ClassId} {dI : Nat → Nat → Nat} {A : Nat → Prop} {cI cJ cZ : ClassId} {h_p0 : Nat} {ad_p0 : Nat → Nat} {ad_p0_all : Nat → Nat} {p0_made : Int32} {p0_turned : Int32} {p0_steps : Int32} {p0_all_width : Int32} {p0_all_size : Int32} {p0_firstIn : Nat → Int32} {p0_otherIn : Nat → Int32} {z_p0_leads : Nat → Int32} {z_p0_queue : Nat → Int32} {post : Int32 → (Nat → Int32) → (Nat → Int32) → Prop} {K : (Int32) → (Int32) → (Int32) → (Nat → Int32) → (Nat → Int32) → Prop} (E0 : xEnv p s m args meth c cX1_queueThoseBefore (some .int) 7 RX1 wsX1_queueThoseBefore (dC, dI) cI cJ cZ A) (hk : ∀ (v3 : Int32) (v4 : Int32) (v5 : Int32) (p0_leads : Nat → Int32) (p0_queue : Nat → Int32) (H : Heap) (locs : List Loc) (ls : Array Slot), K v3 v4 v5 p0_leads p0_queue → va_P (dC, dI) vwCl (wld_X1_queueThoseBefore cI cJ cZ h_p0 ad_p0 ad_p0_all p0_made p0_turned p0_steps p0_all_width p0_all_size p0_firstIn p0_leads p0_otherIn p0_queue) H → va_D A (wld_X1_queueThoseBefore cI cJ cZ h_p0 ad_p0 ad_p0_all p0_made p0_turned p0_steps p0_all_width p0_all_size p0_firstIn p0_leads p0_otherIn p0_queue) → va_S A s.heap H locs → lv_has ls 7 [(3, .int v3)] → W p l e ({ frames := 0, cells := 0, slots := 0, locals := 0 }) s m args below meth c H locs 0 0 (MQ below (q_X1_queueThoseBefore dC dI cI cJ cZ h_p0 ad_p0 ad_p0_all p0_made p0_turned p0_steps p0_all_width p0_all_size p0_firstIn z_p0_leads p0_otherIn z_p0_queue post A) args s 0 0 A) (F0 m 98 ls [])) : ∀ (n : Nat) (v3 : Int32) (v4 : Int32) (v5 : Int32) (p0_leads : Nat → Int32) (p0_queue : Nat → Int32), w_X1_queueThoseBefore_L24 p0_all_size p0_steps p0_firstIn p0_otherIn post K n v3 v4 v5 p0_leads p0_queue → ∀ (H : Heap) (locs : List Loc) (ls : Array Slot), va_P (dC, dI) vwCl (wld_X1_queueThoseBefore cI cJ cZ h_p0 ad_p0 ad_p0_all p0_made p0_turned p0_steps p0_all_width p0_all_size p0_firstIn p0_leads p0_otherIn p0_queue) H → va_D A (wld_X1_queueThoseBefore cI cJ cZ h_p0 ad_p0 ad_p0_all p0_made p0_turned p0_steps p0_all_width p0_all_size p0_firstIn p0_leads p0_otherIn p0_queue) → va_S A s.heap H locs → lv_has ls 7 [(0, .ref h_p0), (3, .int v3), (4, .int v4), (5, .int v5)] → W p l e ({ frames := 0, cells := 0, slots := 0, locals := 0 }) s m args below meth c H locs 0 0 (MQ below (q_X1_queueThoseBefore dC dI cI cJ cZ h_p0 ad_p0 ad_p0_all p0_made p0_turned p0_steps p0_all_width p0_all_size p0_firstIn z_p0_leads p0_otherIn z_p0_queue post A) args s 0 0 A) (F0 m 24 ls []) := by
  obtain ⟨hx, hb, hr, hml, hown, hts, hlocks, hK, hA, n1, n2⟩ := id E0
  have iX1 : ∀ w ∈ u_ws RX1 TX1 11, w ∈ wsX1_queueThoseBefore := fun w h => List.mem_cons_of_mem _ (List.mem_append_left _ (List.mem_append_right _ h))
  have iX4 : ∀ w ∈ u_ws RX4 TX4 7, w ∈ wsX1_queueThoseBefore := fun w h => List.mem_cons_of_mem _ (List.mem_append_right _ h)
  intro n
  induction n with
  | zero => intro v3 v4 v5 p0_leads p0_queue hw; exact hw.elim
  | succ n ih =>
    intro v3 v4 v5 p0_leads p0_queue hw H locs ls hP hD hS hl
    have hw : w_X1_queueThoseBefore_L24b p0_all_size p0_steps p0_firstIn p0_otherIn post K (w_X1_queueThoseBefore_L24 p0_all_size p0_steps p0_firstIn p0_otherIn post K n) v3 v4 v5 p0_leads p0_queue := hw
    unfold w_X1_queueThoseBefore_L24b at hw
    refine lv_iload hx hb dX1_queueThoseBefore_24 (lv_at hl 3 rfl) ?_
    refine lv_if_le (tgt := 98) hx hb dX1_queueThoseBefore_26 (by decide) (fun c3 => ?_) (fun c4 => ?_)
    · have hw := hw.1 c3
      exact hk _ _ _ _ _ _ _ _ hw hP hD hS (lv_sub hl [1] rfl)
    · have hw := hw.2 c4
      refine lv_iload hx hb dX1_queueThoseBefore_29 (lv_at hl 2 rfl) ?_
      refine lv_if_lt (tgt := 98) hx hb dX1_queueThoseBefore_31 (by decide) (fun c5 => ?_) (fun c6 => ?_)
      · have hw := hw.1 c5
        exact hk _ _ _ _ _ _ _ _ hw hP hD hS (lv_sub hl [1] rfl)
      · have hw := hw.2 c6
        refine lv_aload_n hx hb dX1_queueThoseBefore_34 rfl (lv_at hl 0 rfl) ?_
        refine va_get (D := (dC, dI)) (ci := 1) (v := .int p0_steps) (C := RX1) (T := TX1) (N := 11) hx hb hts iX1 hown hK hP 0 rfl rfl 10 (by decide) (hts (.fieldLink RX1 54 "NetHouse$Field" "steps" "I") (by decide +kernel)) (fun _ h9 => h9) rfl dX1_queueThoseBefore_35 ?_
        refine lv_if_le (tgt := 51) hx hb dX1_queueThoseBefore_38 (by decide) (fun c7 => ?_) (fun c8 => ?_)
        · have hw := hw.1 c7
          refine lv_iconst (v := 0) hx hb dX1_queueThoseBefore_51 (by decide) ?_
          refine lv_istore (lv' := [(6, .int (0 : Int32)), (0, .ref h_p0), (3, .int v3), (4, .int v4), (5, .int v5)]) hx hb dX1_queueThoseBefore_52 hl (by decide) rfl (fun ls hl => ?_)
          refine lv_aload_n hx hb dX1_queueThoseBefore_54 rfl (lv_at hl 1 rfl) ?_
          refine va_get (D := (dC, dI)) (ci := 1) (v := .ref (ad_p0 7)) (C := RX1) (T := TX1) (N := 11) hx hb hts iX1 hown hK hP 0 rfl rfl 7 (by decide) (hts (.fieldLink RX1 44 "NetHouse$Field" "leads" "[I") (by decide +kernel)) (fun _ h9 => h9) rfl dX1_queueThoseBefore_55 ?_
          refine lv_iload hx hb dX1_queueThoseBefore_58 (lv_at hl 0 rfl) ?_
          refine va_iald hx hb hK hP 3 0 rfl rfl hw.1 dX1_queueThoseBefore_60 ?_
          have hw := hw.2
          refine lv_if_ne (tgt := 83) hx hb dX1_queueThoseBefore_61 (by decide) (fun c9 => ?_) (fun c10 => ?_)
          · have hw := hw.1 c9
            refine lv_aload_n hx hb dX1_queueThoseBefore_83 rfl (lv_at hl 1 rfl) ?_
            refine va_get (D := (dC, dI)) (ci := 1) (v := .ref (ad_p0 5)) (C := RX1) (T := TX1) (N := 11) hx hb hts iX1 hown hK hP 0 rfl rfl 5 (by decide) (hts (.fieldLink RX1 38 "NetHouse$Field" "otherIn" "[I") (by decide +kernel)) (fun _ h9 => h9) rfl dX1_queueThoseBefore_84 ?_
            refine lv_iload hx hb dX1_queueThoseBefore_87 (lv_at hl 3 rfl) ?_
            refine va_iald hx hb hK hP 4 0 rfl rfl hw.1 dX1_queueThoseBefore_89 ?_
            have hw := hw.2
            refine lv_topi (fun x11 ex11 => ?_)
            have hw := hw x11 ex11
            refine lv_istore (lv' := [(4, .int x11), (6, .int (0 : Int32)), (0, .ref h_p0), (3, .int v3), (5, .int v5)]) hx hb dX1_queueThoseBefore_90 hl (by decide) rfl (fun ls hl => ?_)
            obtain ⟨x12, ex12⟩ : ∃ y : Int32, y = v5 + (-1 : Int32) := ⟨_, rfl⟩
            have hw := hw x12 ex12
            refine lv_iinc (v := x12) (lv' := [(5, .int x12), (4, .int x11), (6, .int (0 : Int32)), (0, .ref h_p0), (3, .int v3)]) hx hb dX1_queueThoseBefore_92 hl (k := 4) rfl (by rw [ex12]; rfl) (by decide) rfl (fun ls hl => ?_)
            refine lv_goto (tgt := 24) hx hb dX1_queueThoseBefore_95 (by decide) ?_
            exact ih _ _ _ _ _ hw _ _ _ hP hD hS (lv_sub hl [3, 4, 1, 0] rfl)
          · have hw := hw.2 c10
            refine lv_aload_n hx hb dX1_queueThoseBefore_64 rfl (lv_at hl 1 rfl) ?_
            refine va_get (D := (dC, dI)) (ci := 1) (v := .ref (ad_p0 7)) (C := RX1) (T := TX1) (N := 11) hx hb hts iX1 hown hK hP 0 rfl rfl 7 (by decide) (hts (.fieldLink RX1 44 "NetHouse$Field" "leads" "[I") (by decide +kernel)) (fun _ h9 => h9) rfl dX1_queueThoseBefore_65 ?_
            refine lv_iload hx hb dX1_queueThoseBefore_68 (lv_at hl 0 rfl) ?_
            refine lv_iconst (v := 1) hx hb dX1_queueThoseBefore_70 (by decide) ?_
            refine va_iast hx hb hK hP hD hS 3 0 rfl rfl hw.1 dX1_queueThoseBefore_71 (fun H locs hP hD hS => ?_)
            have hw := hw.2
            have hP : va_P (dC, dI) vwCl (wld_X1_queueThoseBefore cI cJ cZ h_p0 ad_p0 ad_p0_all p0_made p0_turned p0_steps p0_all_width p0_all_size p0_firstIn (upd p0_leads (0 : Int32).toNatClampNeg (1 : Int32)) p0_otherIn p0_queue) H := hP
            have hD : va_D A (wld_X1_queueThoseBefore cI cJ cZ h_p0 ad_p0 ad_p0_all p0_made p0_turned p0_steps p0_all_width p0_all_size p0_firstIn (upd p0_leads (0 : Int32).toNatClampNeg (1 : Int32)) p0_otherIn p0_queue) := hD
            refine lv_aload_n hx hb dX1_queueThoseBefore_72 rfl (lv_at hl 1 rfl) ?_
            refine va_get (D := (dC, dI)) (ci := 1) (v := .ref (ad_p0 6)) (C := RX1) (T := TX1) (N := 11) hx hb hts iX1 hown hK hP 0 rfl rfl 6 (by decide) (hts (.fieldLink RX1 41 "NetHouse$Field" "queue" "[I") (by decide +kernel)) (fun _ h9 => h9) rfl dX1_queueThoseBefore_73 ?_
            refine lv_iload_n hx hb dX1_queueThoseBefore_76 rfl (lv_at hl 2 rfl) ?_
            refine lv_iload hx hb dX1_queueThoseBefore_77 (lv_at hl 0 rfl) ?_
            refine va_iast hx hb hK hP hD hS 5 0 rfl rfl hw.1 dX1_queueThoseBefore_79 (fun H locs hP hD hS => ?_)
            have hw := hw.2
            have hP : va_P (dC, dI) vwCl (wld_X1_queueThoseBefore cI cJ cZ h_p0 ad_p0 ad_p0_all p0_made p0_turned p0_steps p0_all_width p0_all_size p0_firstIn (upd p0_leads (0 : Int32).toNatClampNeg (1 : Int32)) p0_otherIn (upd p0_queue v3.toNatClampNeg (0 : Int32))) H := hP
            have hD : va_D A (wld_X1_queueThoseBefore cI cJ cZ h_p0 ad_p0 ad_p0_all p0_made p0_turned p0_steps p0_all_width p0_all_size p0_firstIn (upd p0_leads (0 : Int32).toNatClampNeg (1 : Int32)) p0_otherIn (upd p0_queue v3.toNatClampNeg (0 : Int32))) := hD
            obtain ⟨x13, ex13⟩ : ∃ y : Int32, y = v3 + (1 : Int32) := ⟨_, rfl⟩
            have hw := hw x13 ex13
            refine lv_iinc (v := x13) (lv' := [(3, .int x13), (6, .int (0 : Int32)), (0, .ref h_p0), (4, .int v4), (5, .int v5)]) hx hb dX1_queueThoseBefore_80 hl (k := 2) rfl (by rw [ex13]; rfl) (by decide) rfl (fun ls hl => ?_)
            refine lv_aload_n hx hb dX1_queueThoseBefore_83 rfl (lv_at hl 2 rfl) ?_
            refine va_get (D := (dC, dI)) (ci := 1) (v := .ref (ad_p0 5)) (C := RX1) (T := TX1) (N := 11) hx hb hts iX1 hown hK hP 0 rfl rfl 5 (by decide) (hts (.fieldLink RX1 38 "NetHouse$Field" "otherIn" "[I") (by decide +kernel)) (fun _ h9 => h9) rfl dX1_queueThoseBefore_84 ?_
            refine lv_iload hx hb dX1_queueThoseBefore_87 (lv_at hl 3 rfl) ?_
            refine va_iald hx hb hK hP 4 0 rfl rfl hw.1 dX1_queueThoseBefore_89 ?_
            have hw := hw.2
            refine lv_topi (fun x14 ex14 => ?_)
            have hw := hw x14 ex14
            refine lv_istore (lv' := [(4, .int x14), (3, .int x13), (6, .int (0 : Int32)), (0, .ref h_p0), (5, .int v5)]) hx hb dX1_queueThoseBefore_90 hl (by decide) rfl (fun ls hl => ?_)
            obtain ⟨x15, ex15⟩ : ∃ y : Int32, y = v5 + (-1 : Int32) := ⟨_, rfl⟩
            have hw := hw x15 ex15
            refine lv_iinc (v := x15) (lv' := [(5, .int x15), (4, .int x14), (3, .int x13), (6, .int (0 : Int32)), (0, .ref h_p0)]) hx hb dX1_queueThoseBefore_92 hl (k := 4) rfl (by rw [ex15]; rfl) (by decide) rfl (fun ls hl => ?_)
            refine lv_goto (tgt := 24) hx hb dX1_queueThoseBefore_95 (by decide) ?_
            exact ih _ _ _ _ _ hw _ _ _ hP hD hS (lv_sub hl [4, 2, 1, 0] rfl)
        · have hw := hw.2 c8
          refine lv_iload hx hb dX1_queueThoseBefore_41 (lv_at hl 2 rfl) ?_
          refine lv_aload_n hx hb dX1_queueThoseBefore_43 rfl (lv_at hl 0 rfl) ?_
          refine va_get (D := (dC, dI)) (ci := 1) (v := .int p0_steps) (C := RX1) (T := TX1) (N := 11) hx hb hts iX1 hown hK hP 0 rfl rfl 10 (by decide) (hts (.fieldLink RX1 54 "NetHouse$Field" "steps" "I") (by decide +kernel)) (fun _ h9 => h9) rfl dX1_queueThoseBefore_44 ?_
          refine lv_idiv hx hb dX1_queueThoseBefore_47 hw.1 ?_
          have hw := hw.2
          refine lv_goto (tgt := 52) hx hb dX1_queueThoseBefore_48 (by decide) ?_
          refine lv_topi (fun x16 ex16 => ?_)
          have hw := hw x16 ex16
          refine lv_istore (lv' := [(6, .int x16), (0, .ref h_p0), (3, .int v3), (4, .int v4), (5, .int v5)]) hx hb dX1_queueThoseBefore_52 hl (by decide) rfl (fun ls hl => ?_)
          refine lv_aload_n hx hb dX1_queueThoseBefore_54 rfl (lv_at hl 1 rfl) ?_
          refine va_get (D := (dC, dI)) (ci := 1) (v := .ref (ad_p0 7)) (C := RX1) (T := TX1) (N := 11) hx hb hts iX1 hown hK hP 0 rfl rfl 7 (by decide) (hts (.fieldLink RX1 44 "NetHouse$Field" "leads" "[I") (by decide +kernel)) (fun _ h9 => h9) rfl dX1_queueThoseBefore_55 ?_
          refine lv_iload hx hb dX1_queueThoseBefore_58 (lv_at hl 0 rfl) ?_
          refine va_iald hx hb hK hP 3 0 rfl rfl hw.1 dX1_queueThoseBefore_60 ?_
          have hw := hw.2
          refine lv_if_ne (tgt := 83) hx hb dX1_queueThoseBefore_61 (by decide) (fun c17 => ?_) (fun c18 => ?_)
          · have hw := hw.1 c17
            refine lv_aload_n hx hb dX1_queueThoseBefore_83 rfl (lv_at hl 1 rfl) ?_
            refine va_get (D := (dC, dI)) (ci := 1) (v := .ref (ad_p0 5)) (C := RX1) (T := TX1) (N := 11) hx hb hts iX1 hown hK hP 0 rfl rfl 5 (by decide) (hts (.fieldLink RX1 38 "NetHouse$Field" "otherIn" "[I") (by decide +kernel)) (fun _ h9 => h9) rfl dX1_queueThoseBefore_84 ?_
            refine lv_iload hx hb dX1_queueThoseBefore_87 (lv_at hl 3 rfl) ?_
            refine va_iald hx hb hK hP 4 0 rfl rfl hw.1 dX1_queueThoseBefore_89 ?_
            have hw := hw.2
            refine lv_topi (fun x19 ex19 => ?_)
            have hw := hw x19 ex19
            refine lv_istore (lv' := [(4, .int x19), (6, .int x16), (0, .ref h_p0), (3, .int v3), (5, .int v5)]) hx hb dX1_queueThoseBefore_90 hl (by decide) rfl (fun ls hl => ?_)
            obtain ⟨x20, ex20⟩ : ∃ y : Int32, y = v5 + (-1 : Int32) := ⟨_, rfl⟩
            have hw := hw x20 ex20
            refine lv_iinc (v := x20) (lv' := [(5, .int x20), (4, .int x19), (6, .int x16), (0, .ref h_p0), (3, .int v3)]) hx hb dX1_queueThoseBefore_92 hl (k := 4) rfl (by rw [ex20]; rfl) (by decide) rfl (fun ls hl => ?_)
            refine lv_goto (tgt := 24) hx hb dX1_queueThoseBefore_95 (by decide) ?_
            exact ih _ _ _ _ _ hw _ _ _ hP hD hS (lv_sub hl [3, 4, 1, 0] rfl)
          · have hw := hw.2 c18
            refine lv_aload_n hx hb dX1_queueThoseBefore_64 rfl (lv_at hl 1 rfl) ?_
            refine va_get (D := (dC, dI)) (ci := 1) (v := .ref (ad_p0 7)) (C := RX1) (T := TX1) (N := 11) hx hb hts iX1 hown hK hP 0 rfl rfl 7 (by decide) (hts (.fieldLink RX1 44 "NetHouse$Field" "leads" "[I") (by decide +kernel)) (fun _ h9 => h9) rfl dX1_queueThoseBefore_65 ?_
            refine lv_iload hx hb dX1_queueThoseBefore_68 (lv_at hl 0 rfl) ?_
            refine lv_iconst (v := 1) hx hb dX1_queueThoseBefore_70 (by decide) ?_
            refine va_iast hx hb hK hP hD hS 3 0 rfl rfl hw.1 dX1_queueThoseBefore_71 (fun H locs hP hD hS => ?_)
            have hw := hw.2
            have hP : va_P (dC, dI) vwCl (wld_X1_queueThoseBefore cI cJ cZ h_p0 ad_p0 ad_p0_all p0_made p0_turned p0_steps p0_all_width p0_all_size p0_firstIn (upd p0_leads x16.toNatClampNeg (1 : Int32)) p0_otherIn p0_queue) H := hP
            have hD : va_D A (wld_X1_queueThoseBefore cI cJ cZ h_p0 ad_p0 ad_p0_all p0_made p0_turned p0_steps p0_all_width p0_all_size p0_firstIn (upd p0_leads x16.toNatClampNeg (1 : Int32)) p0_otherIn p0_queue) := hD
            refine lv_aload_n hx hb dX1_queueThoseBefore_72 rfl (lv_at hl 1 rfl) ?_
            refine va_get (D := (dC, dI)) (ci := 1) (v := .ref (ad_p0 6)) (C := RX1) (T := TX1) (N := 11) hx hb hts iX1 hown hK hP 0 rfl rfl 6 (by decide) (hts (.fieldLink RX1 41 "NetHouse$Field" "queue" "[I") (by decide +kernel)) (fun _ h9 => h9) rfl dX1_queueThoseBefore_73 ?_
            refine lv_iload_n hx hb dX1_queueThoseBefore_76 rfl (lv_at hl 2 rfl) ?_
            refine lv_iload hx hb dX1_queueThoseBefore_77 (lv_at hl 0 rfl) ?_
            refine va_iast hx hb hK hP hD hS 5 0 rfl rfl hw.1 dX1_queueThoseBefore_79 (fun H locs hP hD hS => ?_)
            have hw := hw.2
            have hP : va_P (dC, dI) vwCl (wld_X1_queueThoseBefore cI cJ cZ h_p0 ad_p0 ad_p0_all p0_made p0_turned p0_steps p0_all_width p0_all_size p0_firstIn (upd p0_leads x16.toNatClampNeg (1 : Int32)) p0_otherIn (upd p0_queue v3.toNatClampNeg x16)) H := hP
            have hD : va_D A (wld_X1_queueThoseBefore cI cJ cZ h_p0 ad_p0 ad_p0_all p0_made p0_turned p0_steps p0_all_width p0_all_size p0_firstIn (upd p0_leads x16.toNatClampNeg (1 : Int32)) p0_otherIn (upd p0_queue v3.toNatClampNeg x16)) := hD
            obtain ⟨x21, ex21⟩ : ∃ y : Int32, y = v3 + (1 : Int32) := ⟨_, rfl⟩
            have hw := hw x21 ex21
            refine lv_iinc (v := x21) (lv' := [(3, .int x21), (6, .int x16), (0, .ref h_p0), (4, .int v4), (5, .int v5)]) hx hb dX1_queueThoseBefore_80 hl (k := 2) rfl (by rw [ex21]; rfl) (by decide) rfl (fun ls hl => ?_)
            refine lv_aload_n hx hb dX1_queueThoseBefore_83 rfl (lv_at hl 2 rfl) ?_
            refine va_get (D := (dC, dI)) (ci := 1) (v := .ref (ad_p0 5)) (C := RX1) (T := TX1) (N := 11) hx hb hts iX1 hown hK hP 0 rfl rfl 5 (by decide) (hts (.fieldLink RX1 38 "NetHouse$Field" "otherIn" "[I") (by decide +kernel)) (fun _ h9 => h9) rfl dX1_queueThoseBefore_84 ?_
            refine lv_iload hx hb dX1_queueThoseBefore_87 (lv_at hl 3 rfl) ?_
            refine va_iald hx hb hK hP 4 0 rfl rfl hw.1 dX1_queueThoseBefore_89 ?_
            have hw := hw.2
            refine lv_topi (fun x22 ex22 => ?_)
            have hw := hw x22 ex22
            refine lv_istore (lv' := [(4, .int x22), (3, .int x21), (6, .int x16), (0, .ref h_p0), (5, .int v5)]) hx hb dX1_queueThoseBefore_90 hl (by decide) rfl (fun ls hl => ?_)
            obtain ⟨x23, ex23⟩ : ∃ y : Int32, y = v5 + (-1 : Int32) := ⟨_, rfl⟩
            have hw := hw x23 ex23
            refine lv_iinc (v := x23) (lv' := [(5, .int x23), (4, .int x22), (3, .int x21), (6, .int x16), (0, .ref h_p0)]) hx hb dX1_queueThoseBefore_92 hl (k := 4) rfl (by rw [ex23]; rfl) (by decide) rfl (fun ls hl => ?_)
            refine lv_goto (tgt := 24) hx hb dX1_queueThoseBefore_95 (by decide) ?_
            exact ih _ _ _ _ _ hw _ _ _ hP hD hS (lv_sub hl [4, 2, 1, 0] rfl)
set_option maxHeartbeats 4000000 in
set_option maxRecDepth 100000 in
theorem c_X1_queueThoseBefore {l : Launch} {dC : Nat → ClassId} {dI : Nat → Nat → Nat} {sz : Nat} {cI cJ cZ : ClassId} {h_p0 : Nat} {ad_p0 : Nat → Nat} {ad_p0_all : Nat → Nat} {p0_made : Int32} {p0_turned : Int32} {p0_steps : Int32} {p0_all_width : Int32} {p0_all_size : Int32} {p0_firstIn : Nat → Int32} {p0_leads : Nat → Int32} {p0_otherIn : Nat → Int32} {p0_queue : Nat → Int32} {a1 : Int32} {a2 : Int32} {post : Int32 → (Nat → Int32) → (Nat → Int32) → Prop} (hw : w_X1_queueThoseBefore p0_all_size p0_steps p0_firstIn p0_leads p0_otherIn p0_queue a1 a2 post) : Met l yX1_queueThoseBefore wsX1_queueThoseBefore ({ frames := 0, cells := 0, slots := 0, locals := 0 }) (va_Pc [.ref h_p0, .int a1, .int a2] (xPre (dC, dI) cI cJ cZ (wld_X1_queueThoseBefore cI cJ cZ h_p0 ad_p0 ad_p0_all p0_made p0_turned p0_steps p0_all_width p0_all_size p0_firstIn p0_leads p0_otherIn p0_queue) sz)) (q_X1_queueThoseBefore dC dI cI cJ cZ h_p0 ad_p0 ad_p0_all p0_made p0_turned p0_steps p0_all_width p0_all_size p0_firstIn p0_leads p0_otherIn p0_queue post (va_A (wld_X1_queueThoseBefore cI cJ cZ h_p0 ad_p0 ad_p0_all p0_made p0_turned p0_steps p0_all_width p0_all_size p0_firstIn p0_leads p0_otherIn p0_queue) sz)) 0 0 (va_A (wld_X1_queueThoseBefore cI cJ cZ h_p0 ad_p0 ad_p0_all p0_made p0_turned p0_steps p0_all_width p0_all_size p0_firstIn p0_leads p0_otherIn p0_queue) sz) := by
  refine x_met (cc := cX1_queueThoseBefore) (maxL := 7) (ret := (some .int)) (own := RX1) (Qc := fun A => (q_X1_queueThoseBefore dC dI cI cJ cZ h_p0 ad_p0 ad_p0_all p0_made p0_turned p0_steps p0_all_width p0_all_size p0_firstIn p0_leads p0_otherIn p0_queue post A)) (by decide) rfl rfl (Nat.le_of_ble_eq_true rfl) ?_
  intro p e s m args below meth c A ls E0 hP hD hS hl
  obtain ⟨hx, hb, hr, hml, hown, hts, hlocks, hK, hA, n1, n2⟩ := id E0
  have iX1 : ∀ w ∈ u_ws RX1 TX1 11, w ∈ wsX1_queueThoseBefore := fun w h => List.mem_cons_of_mem _ (List.mem_append_left _ (List.mem_append_right _ h))
  have iX4 : ∀ w ∈ u_ws RX4 TX4 7, w ∈ wsX1_queueThoseBefore := fun w h => List.mem_cons_of_mem _ (List.mem_append_right _ h)
  have hS0 := hS
  have hl : lv_has ls 7 [(0, .ref h_p0), (1, .int a1), (2, .int a2)] := hl
  unfold w_X1_queueThoseBefore at hw
  obtain ⟨H, hH⟩ : ∃ H, H = s.heap := ⟨_, rfl⟩
  have hS : va_S A s.heap H [] := by rw [hH]; exact hS
  have hP : va_P (dC, dI) vwCl (wld_X1_queueThoseBefore cI cJ cZ h_p0 ad_p0 ad_p0_all p0_made p0_turned p0_steps p0_all_width p0_all_size p0_firstIn p0_leads p0_otherIn p0_queue) H := by rw [hH]; exact hP
  suffices hG : W p l e ({ frames := 0, cells := 0, slots := 0, locals := 0 }) s m args below meth c H [] 0 0 (MQ below (q_X1_queueThoseBefore dC dI cI cJ cZ h_p0 ad_p0 ad_p0_all p0_made p0_turned p0_steps p0_all_width p0_all_size p0_firstIn p0_leads p0_otherIn p0_queue post A) args s 0 0 A) (F0 m 0 ls []) by rw [hH] at hG; exact hG
  clear hH
  refine lv_iload_n hx hb dX1_queueThoseBefore_0 rfl (lv_at hl 2 rfl) ?_
  refine lv_istore_n (lv' := [(3, .int a2), (0, .ref h_p0), (1, .int a1), (2, .int a2)]) hx hb dX1_queueThoseBefore_1 rfl hl (by decide) rfl (fun ls hl => ?_)
  refine lv_aload_n hx hb dX1_queueThoseBefore_2 rfl (lv_at hl 1 rfl) ?_
  refine va_get (D := (dC, dI)) (ci := 1) (v := .ref (ad_p0 4)) (C := RX1) (T := TX1) (N := 11) hx hb hts iX1 hown hK hP 0 rfl rfl 4 (by decide) (hts (.fieldLink RX1 35 "NetHouse$Field" "firstIn" "[I") (by decide +kernel)) (fun _ h9 => h9) rfl dX1_queueThoseBefore_3 ?_
  refine lv_iload_n hx hb dX1_queueThoseBefore_6 rfl (lv_at hl 2 rfl) ?_
  refine va_iald hx hb hK hP 2 0 rfl rfl hw.1 dX1_queueThoseBefore_7 ?_
  have hw := hw.2
  refine lv_topi (fun x1 ex1 => ?_)
  have hw := hw x1 ex1
  refine lv_istore (lv' := [(4, .int x1), (3, .int a2), (0, .ref h_p0), (1, .int a1), (2, .int a2)]) hx hb dX1_queueThoseBefore_8 hl (by decide) rfl (fun ls hl => ?_)
  refine lv_aload_n hx hb dX1_queueThoseBefore_10 rfl (lv_at hl 2 rfl) ?_
  refine va_get (D := (dC, dI)) (ci := 1) (v := .ref (ad_p0 0)) (C := RX1) (T := TX1) (N := 11) hx hb hts iX1 hown hK hP 0 rfl rfl 0 (by decide) (hts (.fieldLink RX1 14 "NetHouse$Field" "all" "LNetHouse$Markings;") (by decide +kernel)) (fun _ h9 => h9) rfl dX1_queueThoseBefore_11 ?_
  refine va_get (D := (dC, dI)) (ci := 4) (v := .int p0_all_size) (C := RX4) (T := TX4) (N := 7) hx hb hts iX4 hown hK hP 1 rfl rfl 6 (by decide) (hts (.fieldLink RX1 59 "NetHouse$Markings" "size" "I") (by decide +kernel)) (fun _ h9 => h9) rfl dX1_queueThoseBefore_14 ?_
  refine lv_aload_n hx hb dX1_queueThoseBefore_17 rfl (lv_at hl 2 rfl) ?_
  refine va_get (D := (dC, dI)) (ci := 1) (v := .int p0_steps) (C := RX1) (T := TX1) (N := 11) hx hb hts iX1 hown hK hP 0 rfl rfl 10 (by decide) (hts (.fieldLink RX1 54 "NetHouse$Field" "steps" "I") (by decide +kernel)) (fun _ h9 => h9) rfl dX1_queueThoseBefore_18 ?_
  refine lv_imul hx hb dX1_queueThoseBefore_21 ?_
  refine lv_topi (fun x2 ex2 => ?_)
  have hw := hw x2 ex2
  refine lv_istore (lv' := [(5, .int x2), (4, .int x1), (3, .int a2), (0, .ref h_p0), (1, .int a1), (2, .int a2)]) hx hb dX1_queueThoseBefore_22 hl (by decide) rfl (fun ls hl => ?_)
  obtain ⟨n24, hw⟩ := hw
  refine c_X1_queueThoseBefore_L24 (l := l) (z_p0_leads := p0_leads) (z_p0_queue := p0_queue) E0 ?_ n24 _ _ _ _ _ hw _ _ _ hP hD hS (lv_sub hl [3, 2, 1, 0] rfl)
  · intro v25 v26 v27 s28 s29 H locs ls hw hP hD hS hl
    have hP : va_P (dC, dI) vwCl (wld_X1_queueThoseBefore cI cJ cZ h_p0 ad_p0 ad_p0_all p0_made p0_turned p0_steps p0_all_width p0_all_size p0_firstIn s28 p0_otherIn s29) H := hP
    have hD : va_D A (wld_X1_queueThoseBefore cI cJ cZ h_p0 ad_p0 ad_p0_all p0_made p0_turned p0_steps p0_all_width p0_all_size p0_firstIn s28 p0_otherIn s29) := hD
    refine lv_iload_n hx hb dX1_queueThoseBefore_98 rfl (lv_at hl 0 rfl) ?_
    exact x_iret (w1 := fun (u : (Nat → Int32) × (Nat → Int32)) => (wld_X1_queueThoseBefore cI cJ cZ h_p0 ad_p0 ad_p0_all p0_made p0_turned p0_steps p0_all_width p0_all_size p0_firstIn (u.1) p0_otherIn (u.2))) hx hb hr hlocks (s28, s29) hw hP hD hS dX1_queueThoseBefore_99
abbrev wld_X1_leastNotLeading (cI cJ cZ : ClassId) (h_p0 : Nat) (ad_p0 : Nat → Nat) (ad_p0_all : Nat → Nat) (p0_made : Int32) (p0_turned : Int32) (p0_steps : Int32) (p0_all_width : Int32) (p0_all_size : Int32) (p0_firstIn : Nat → Int32) (p0_leads : Nat → Int32) (p0_otherIn : Nat → Int32) (p0_queue : Nat → Int32) : va_W := [(h_p0, .inr (1, [.ref (ad_p0 0), .ref (ad_p0 1), .ref (ad_p0 2), .ref (ad_p0 3), .ref (ad_p0 4), .ref (ad_p0 5), .ref (ad_p0 6), .ref (ad_p0 7), .int p0_made, .int p0_turned, .int p0_steps])), ((ad_p0 0), .inr (4, [.ref (ad_p0_all 0), .ref (ad_p0_all 1), .ref (ad_p0_all 2), .ref (ad_p0_all 3), .ref (ad_p0_all 4), .int p0_all_width, .int p0_all_size])), ((ad_p0 4), .inl (cI, 8000, .inl p0_firstIn)), ((ad_p0 7), .inl (cI, 8000, .inl p0_leads)), ((ad_p0 5), .inl (cI, 128000, .inl p0_otherIn)), ((ad_p0 6), .inl (cI, 8000, .inl p0_queue))]
abbrev q_X1_leastNotLeading (dC : Nat → ClassId) (dI : Nat → Nat → Nat) (cI cJ cZ : ClassId) (h_p0 : Nat) (ad_p0 : Nat → Nat) (ad_p0_all : Nat → Nat) (p0_made : Int32) (p0_turned : Int32) (p0_steps : Int32) (p0_all_width : Int32) (p0_all_size : Int32) (p0_firstIn : Nat → Int32) (p0_leads : Nat → Int32) (p0_otherIn : Nat → Int32) (p0_queue : Nat → Int32) (post : Int32 → (Nat → Int32) → (Nat → Int32) → Prop) (A : Nat → Prop) : Array Value → State → Outcome → State → Prop := va_Qi (fun r (u : (Nat → Int32) × (Nat → Int32)) => post r (u.1) (u.2)) (fun (u : (Nat → Int32) × (Nat → Int32)) t => xPost (dC, dI) A (wld_X1_leastNotLeading cI cJ cZ h_p0 ad_p0 ad_p0_all p0_made p0_turned p0_steps p0_all_width p0_all_size p0_firstIn (u.1) p0_otherIn (u.2)) t) A
def w_X1_leastNotLeading_L4b (p0_all_size : Int32) (p0_steps : Int32) (p0_firstIn : Nat → Int32) (p0_otherIn : Nat → Int32) (post : Int32 → (Nat → Int32) → (Nat → Int32) → Prop) (K : (Int32) → (Int32) → (Nat → Int32) → (Nat → Int32) → Prop) (rec : (Int32) → (Int32) → (Nat → Int32) → (Nat → Int32) → Prop) (v2 : Int32) (v3 : Int32) (p0_leads : Nat → Int32) (p0_queue : Nat → Int32) : Prop :=
    (v2 ≤ v3 →
      K v2 v3 p0_leads p0_queue) ∧
    (¬ v2 ≤ v3 →
      (p0_all_size ≤ v3 →
        K v2 v3 p0_leads p0_queue) ∧
      (¬ p0_all_size ≤ v3 →
        vp_in v3 8000 ∧
        w_X1_queueThoseBefore p0_all_size p0_steps p0_firstIn p0_leads p0_otherIn p0_queue (p0_queue v3.toNatClampNeg) v2 (fun r5 y6 y7 =>
        ∀ x8 : Int32, x8 = v3 + (1 : Int32) →
        rec r5 x8 y6 y7)))
def w_X1_leastNotLeading_L4 (p0_all_size : Int32) (p0_steps : Int32) (p0_firstIn : Nat → Int32) (p0_otherIn : Nat → Int32) (post : Int32 → (Nat → Int32) → (Nat → Int32) → Prop) (K : (Int32) → (Int32) → (Nat → Int32) → (Nat → Int32) → Prop) : Nat → (Int32) → (Int32) → (Nat → Int32) → (Nat → Int32) → Prop
  | 0, _, _, _, _ => False
  | n + 1, v2, v3, p0_leads, p0_queue => w_X1_leastNotLeading_L4b p0_all_size p0_steps p0_firstIn p0_otherIn post K (w_X1_leastNotLeading_L4 p0_all_size p0_steps p0_firstIn p0_otherIn post K n) v2 v3 p0_leads p0_queue
def w_X1_leastNotLeading_L40b (p0_all_size : Int32) (p0_steps : Int32) (p0_firstIn : Nat → Int32) (p0_leads : Nat → Int32) (p0_otherIn : Nat → Int32) (p0_queue : Nat → Int32) (post : Int32 → (Nat → Int32) → (Nat → Int32) → Prop) (K : (Int32) → Prop) (rec : (Int32) → Prop) (v3 : Int32) : Prop :=
    (p0_all_size ≤ v3 →
      K v3) ∧
    (¬ p0_all_size ≤ v3 →
      vp_in v3 8000 ∧
      (¬ (p0_leads v3.toNatClampNeg) = 0 →
        ∀ x18 : Int32, x18 = v3 + (1 : Int32) →
        rec x18) ∧
      ((p0_leads v3.toNatClampNeg) = 0 →
        (post v3 p0_leads p0_queue)))
def w_X1_leastNotLeading_L40 (p0_all_size : Int32) (p0_steps : Int32) (p0_firstIn : Nat → Int32) (p0_leads : Nat → Int32) (p0_otherIn : Nat → Int32) (p0_queue : Nat → Int32) (post : Int32 → (Nat → Int32) → (Nat → Int32) → Prop) (K : (Int32) → Prop) : Nat → (Int32) → Prop
  | 0, _ => False
  | n + 1, v3 => w_X1_leastNotLeading_L40b p0_all_size p0_steps p0_firstIn p0_leads p0_otherIn p0_queue post K (w_X1_leastNotLeading_L40 p0_all_size p0_steps p0_firstIn p0_leads p0_otherIn p0_queue post K n) v3
def w_X1_leastNotLeading (p0_all_size : Int32) (p0_steps : Int32) (p0_firstIn : Nat → Int32) (p0_leads : Nat → Int32) (p0_otherIn : Nat → Int32) (p0_queue : Nat → Int32) (a1 : Int32) (post : Int32 → (Nat → Int32) → (Nat → Int32) → Prop) : Prop :=
  ∃ n : Nat, w_X1_leastNotLeading_L4 p0_all_size p0_steps p0_firstIn p0_otherIn post (fun v10 v11 s12 s13 =>
      ∃ n : Nat, w_X1_leastNotLeading_L40 p0_all_size p0_steps p0_firstIn s12 p0_otherIn s13 post (fun v20 =>
          (post (-2000000005 : Int32) s12 s13)) n (0 : Int32)) n a1 (0 : Int32) p0_leads p0_queue
set_option maxHeartbeats 4000000 in
set_option maxRecDepth 100000 in
theorem c_X1_leastNotLeading_L4 {p : Program} {l : Launch} {e : Env} {s : State} {m : MethodId} {args : Array Value} {below : List Frame} {meth : Method} {c : Code} {dC : Nat → ClassId} {dI : Nat → Nat → Nat} {A : Nat → Prop} {cI cJ cZ : ClassId} {h_p0 : Nat} {ad_p0 : Nat → Nat} {ad_p0_all : Nat → Nat} {p0_made : Int32} {p0_turned : Int32} {p0_steps : Int32} {p0_all_width : Int32} {p0_all_size : Int32} {p0_firstIn : Nat → Int32} {p0_otherIn : Nat → Int32} {z_p0_leads : Nat → Int32} {z_p0_queue : Nat → Int32} {post : Int32 → (Nat → Int32) → (Nat → Int32) → Prop} {K : (Int32) → (Int32) → (Nat → Int32) → (Nat → Int32) → Prop} (E0 : xEnv p s m args meth c cX1_leastNotLeading (some .int) 4 RX1 wsX1_leastNotLeading (dC, dI) cI cJ cZ A) (hk : ∀ (v2 : Int32) (v3 : Int32) (p0_leads : Nat → Int32) (p0_queue : Nat → Int32) (H : Heap) (locs : List Loc) (ls : Array Slot), K v2 v3 p0_leads p0_queue → va_P (dC, dI) vwCl (wld_X1_leastNotLeading cI cJ cZ h_p0 ad_p0 ad_p0_all p0_made p0_turned p0_steps p0_all_width p0_all_size p0_firstIn p0_leads p0_otherIn p0_queue) H → va_D A (wld_X1_leastNotLeading cI cJ cZ h_p0 ad_p0 ad_p0_all p0_made p0_turned p0_steps p0_all_width p0_all_size p0_firstIn p0_leads p0_otherIn p0_queue) → va_S A s.heap H locs → lv_has ls 4 [(0, .ref h_p0)] → W p l e ({ frames := 1, cells := 0, slots := 0, locals := 26 }) s m args below meth c H locs 0 0 (MQ below (q_X1_leastNotLeading dC dI cI cJ cZ h_p0 ad_p0 ad_p0_all p0_made p0_turned p0_steps p0_all_width p0_all_size p0_firstIn z_p0_leads p0_otherIn z_p0_queue post A) args s 0 0 A) (F0 m 38 ls [])) : ∀ (n : Nat) (v2 : Int32) (v3 : Int32) (p0_leads : Nat → Int32) (p0_queue : Nat → Int32), w_X1_leastNotLeading_L4 p0_all_size p0_steps p0_firstIn p0_otherIn post K n v2 v3 p0_leads p0_queue → ∀ (H : Heap) (locs : List Loc) (ls : Array Slot), va_P (dC, dI) vwCl (wld_X1_leastNotLeading cI cJ cZ h_p0 ad_p0 ad_p0_all p0_made p0_turned p0_steps p0_all_width p0_all_size p0_firstIn p0_leads p0_otherIn p0_queue) H → va_D A (wld_X1_leastNotLeading cI cJ cZ h_p0 ad_p0 ad_p0_all p0_made p0_turned p0_steps p0_all_width p0_all_size p0_firstIn p0_leads p0_otherIn p0_queue) → va_S A s.heap H locs → lv_has ls 4 [(0, .ref h_p0), (2, .int v2), (3, .int v3)] → W p l e ({ frames := 1, cells := 0, slots := 0, locals := 26 }) s m args below meth c H locs 0 0 (MQ below (q_X1_leastNotLeading dC dI cI cJ cZ h_p0 ad_p0 ad_p0_all p0_made p0_turned p0_steps p0_all_width p0_all_size p0_firstIn z_p0_leads p0_otherIn z_p0_queue post A) args s 0 0 A) (F0 m 4 ls []) := by
  obtain ⟨hx, hb, hr, hml, hown, hts, hlocks, hK, hA, n1, n2⟩ := id E0
  have iX1 : ∀ w ∈ u_ws RX1 TX1 11, w ∈ wsX1_leastNotLeading := fun w h => List.mem_cons_of_mem _ (List.mem_append_left _ (List.mem_append_right _ h))
  have iX4 : ∀ w ∈ u_ws RX4 TX4 7, w ∈ wsX1_leastNotLeading := fun w h => List.mem_cons_of_mem _ (List.mem_append_right _ h)
  intro n
  induction n with
  | zero => intro v2 v3 p0_leads p0_queue hw; exact hw.elim
  | succ n ih =>
    intro v2 v3 p0_leads p0_queue hw H locs ls hP hD hS hl
    have hw : w_X1_leastNotLeading_L4b p0_all_size p0_steps p0_firstIn p0_otherIn post K (w_X1_leastNotLeading_L4 p0_all_size p0_steps p0_firstIn p0_otherIn post K n) v2 v3 p0_leads p0_queue := hw
    unfold w_X1_leastNotLeading_L4b at hw
    refine lv_iload_n hx hb dX1_leastNotLeading_4 rfl (lv_at hl 2 rfl) ?_
    refine lv_iload_n hx hb dX1_leastNotLeading_5 rfl (lv_at hl 1 rfl) ?_
    refine lv_icmp_ge (tgt := 38) hx hb dX1_leastNotLeading_6 (by decide) (fun c1 => ?_) (fun c2 => ?_)
    · have hw := hw.1 c1
      exact hk _ _ _ _ _ _ _ hw hP hD hS (lv_sub hl [0] rfl)
    · have hw := hw.2 c2
      refine lv_iload_n hx hb dX1_leastNotLeading_9 rfl (lv_at hl 2 rfl) ?_
      refine lv_aload_n hx hb dX1_leastNotLeading_10 rfl (lv_at hl 0 rfl) ?_
      refine va_get (D := (dC, dI)) (ci := 1) (v := .ref (ad_p0 0)) (C := RX1) (T := TX1) (N := 11) hx hb hts iX1 hown hK hP 0 rfl rfl 0 (by decide) (hts (.fieldLink RX1 14 "NetHouse$Field" "all" "LNetHouse$Markings;") (by decide +kernel)) (fun _ h9 => h9) rfl dX1_leastNotLeading_11 ?_
      refine va_get (D := (dC, dI)) (ci := 4) (v := .int p0_all_size) (C := RX4) (T := TX4) (N := 7) hx hb hts iX4 hown hK hP 1 rfl rfl 6 (by decide) (hts (.fieldLink RX1 59 "NetHouse$Markings" "size" "I") (by decide +kernel)) (fun _ h9 => h9) rfl dX1_leastNotLeading_14 ?_
      refine lv_icmp_ge (tgt := 38) hx hb dX1_leastNotLeading_17 (by decide) (fun c3 => ?_) (fun c4 => ?_)
      · have hw := hw.1 c3
        exact hk _ _ _ _ _ _ _ hw hP hD hS (lv_sub hl [0] rfl)
      · have hw := hw.2 c4
        refine lv_aload_n hx hb dX1_leastNotLeading_20 rfl (lv_at hl 0 rfl) ?_
        refine lv_aload_n hx hb dX1_leastNotLeading_21 rfl (lv_at hl 0 rfl) ?_
        refine va_get (D := (dC, dI)) (ci := 1) (v := .ref (ad_p0 6)) (C := RX1) (T := TX1) (N := 11) hx hb hts iX1 hown hK hP 0 rfl rfl 6 (by decide) (hts (.fieldLink RX1 41 "NetHouse$Field" "queue" "[I") (by decide +kernel)) (fun _ h9 => h9) rfl dX1_leastNotLeading_22 ?_
        refine lv_iload_n hx hb dX1_leastNotLeading_25 rfl (lv_at hl 2 rfl) ?_
        refine va_iald hx hb hK hP 5 0 rfl rfl hw.1 dX1_leastNotLeading_26 ?_
        have hw := hw.2
        refine lv_iload_n hx hb dX1_leastNotLeading_27 rfl (lv_at hl 1 rfl) ?_
        obtain ⟨hPc, hDc⟩ := x_sub (wc := (wld_X1_queueThoseBefore cI cJ cZ h_p0 ad_p0 ad_p0_all p0_made p0_turned p0_steps p0_all_width p0_all_size p0_firstIn p0_leads p0_otherIn p0_queue)) hP hD [0, 1, 2, 3, 4, 5] (n := 6) rfl rfl (by decide +kernel)
        refine x_calli (ws' := fun (u : (Nat → Int32) × (Nat → Int32)) => (wld_X1_leastNotLeading cI cJ cZ h_p0 ad_p0 ad_p0_all p0_made p0_turned p0_steps p0_all_width p0_all_size p0_firstIn (u.1) p0_otherIn (u.2))) hP hD hS hA [0, 1, 2, 3, 4, 5] [] [0, 1, 2, 3, 4, 5] (n := 6) (k := 6) rfl (fun _ => rfl) rfl (by decide +kernel) (fun _ => rfl) (va_runV (As := [.int (p0_queue v3.toNatClampNeg), .int v2]) (rest := []) ⟨hx, hb, hml, hown, hts⟩ (c_X1_queueThoseBefore (l := l) (dC := dC) (dI := dI) (cI := cI) (cJ := cJ) (cZ := cZ) (sz := H.size) (h_p0 := h_p0) (ad_p0 := ad_p0) (ad_p0_all := ad_p0_all) (p0_made := p0_made) (p0_turned := p0_turned) (p0_steps := p0_steps) (p0_all_width := p0_all_width) (p0_all_size := p0_all_size) (p0_firstIn := p0_firstIn) (p0_leads := p0_leads) (p0_otherIn := p0_otherIn) (p0_queue := p0_queue) hw) (cwV 2 hts gX1_leastNotLeading_X1_queueThoseBefore rfl rfl rfl (by decide +kernel) ⟨Nat.le_of_ble_eq_true rfl, Nat.le_of_ble_eq_true rfl⟩) ⟨xPre_blind, va_recv hK hP (ci := 1) (q0 := 0) rfl rfl, xPre_at hK hPc hDc n1 n2⟩ rfl rfl hl.1 rfl (lv_room (Nat.le_of_ble_eq_true rfl)) dX1_leastNotLeading_28 ⟨Nat.zero_le _, Nat.zero_le _⟩) (fun r5 u H locs hw hP hD hS => ?_)
        obtain ⟨y6, y7⟩ := u
        try dsimp only at hw
        have hP : va_P (dC, dI) vwCl (wld_X1_leastNotLeading cI cJ cZ h_p0 ad_p0 ad_p0_all p0_made p0_turned p0_steps p0_all_width p0_all_size p0_firstIn y6 p0_otherIn y7) H := hP
        have hD : va_D A (wld_X1_leastNotLeading cI cJ cZ h_p0 ad_p0 ad_p0_all p0_made p0_turned p0_steps p0_all_width p0_all_size p0_firstIn y6 p0_otherIn y7) := hD
        refine lv_istore_n (lv' := [(2, .int r5), (0, .ref h_p0), (3, .int v3)]) hx hb dX1_leastNotLeading_31 rfl hl (by decide) rfl (fun ls hl => ?_)
        obtain ⟨x8, ex8⟩ : ∃ y : Int32, y = v3 + (1 : Int32) := ⟨_, rfl⟩
        have hw := hw x8 ex8
        refine lv_iinc (v := x8) (lv' := [(3, .int x8), (2, .int r5), (0, .ref h_p0)]) hx hb dX1_leastNotLeading_32 hl (k := 2) rfl (by rw [ex8]; rfl) (by decide) rfl (fun ls hl => ?_)
        refine lv_goto (tgt := 4) hx hb dX1_leastNotLeading_35 (by decide) ?_
        exact ih _ _ _ _ hw _ _ _ hP hD hS (lv_sub hl [2, 1, 0] rfl)
set_option maxHeartbeats 4000000 in
set_option maxRecDepth 100000 in
theorem c_X1_leastNotLeading_L40 {p : Program} {l : Launch} {e : Env} {s : State} {m : MethodId} {args : Array Value} {below : List Frame} {meth : Method} {c : Code} {dC : Nat → ClassId} {dI : Nat → Nat → Nat} {A : Nat → Prop} {cI cJ cZ : ClassId} {h_p0 : Nat} {ad_p0 : Nat → Nat} {ad_p0_all : Nat → Nat} {p0_made : Int32} {p0_turned : Int32} {p0_steps : Int32} {p0_all_width : Int32} {p0_all_size : Int32} {p0_firstIn : Nat → Int32} {p0_leads : Nat → Int32} {p0_otherIn : Nat → Int32} {p0_queue : Nat → Int32}  {post : Int32 → (Nat → Int32) → (Nat → Int32) → Prop} {K : (Int32) → Prop} (E0 : xEnv p s m args meth c cX1_leastNotLeading (some .int) 4 RX1 wsX1_leastNotLeading (dC, dI) cI cJ cZ A) (hk : ∀ (v3 : Int32) (H : Heap) (locs : List Loc) (ls : Array Slot), K v3 → va_P (dC, dI) vwCl (wld_X1_leastNotLeading cI cJ cZ h_p0 ad_p0 ad_p0_all p0_made p0_turned p0_steps p0_all_width p0_all_size p0_firstIn p0_leads p0_otherIn p0_queue) H → va_D A (wld_X1_leastNotLeading cI cJ cZ h_p0 ad_p0 ad_p0_all p0_made p0_turned p0_steps p0_all_width p0_all_size p0_firstIn p0_leads p0_otherIn p0_queue) → va_S A s.heap H locs → lv_has ls 4 [] → W p l e ({ frames := 1, cells := 0, slots := 0, locals := 26 }) s m args below meth c H locs 0 0 (MQ below (q_X1_leastNotLeading dC dI cI cJ cZ h_p0 ad_p0 ad_p0_all p0_made p0_turned p0_steps p0_all_width p0_all_size p0_firstIn p0_leads p0_otherIn p0_queue post A) args s 0 0 A) (F0 m 68 ls [])) : ∀ (n : Nat) (v3 : Int32), w_X1_leastNotLeading_L40 p0_all_size p0_steps p0_firstIn p0_leads p0_otherIn p0_queue post K n v3 → ∀ (H : Heap) (locs : List Loc) (ls : Array Slot), va_P (dC, dI) vwCl (wld_X1_leastNotLeading cI cJ cZ h_p0 ad_p0 ad_p0_all p0_made p0_turned p0_steps p0_all_width p0_all_size p0_firstIn p0_leads p0_otherIn p0_queue) H → va_D A (wld_X1_leastNotLeading cI cJ cZ h_p0 ad_p0 ad_p0_all p0_made p0_turned p0_steps p0_all_width p0_all_size p0_firstIn p0_leads p0_otherIn p0_queue) → va_S A s.heap H locs → lv_has ls 4 [(0, .ref h_p0), (3, .int v3)] → W p l e ({ frames := 1, cells := 0, slots := 0, locals := 26 }) s m args below meth c H locs 0 0 (MQ below (q_X1_leastNotLeading dC dI cI cJ cZ h_p0 ad_p0 ad_p0_all p0_made p0_turned p0_steps p0_all_width p0_all_size p0_firstIn p0_leads p0_otherIn p0_queue post A) args s 0 0 A) (F0 m 40 ls []) := by
  obtain ⟨hx, hb, hr, hml, hown, hts, hlocks, hK, hA, n1, n2⟩ := id E0
  have iX1 : ∀ w ∈ u_ws RX1 TX1 11, w ∈ wsX1_leastNotLeading := fun w h => List.mem_cons_of_mem _ (List.mem_append_left _ (List.mem_append_right _ h))
  have iX4 : ∀ w ∈ u_ws RX4 TX4 7, w ∈ wsX1_leastNotLeading := fun w h => List.mem_cons_of_mem _ (List.mem_append_right _ h)
  intro n
  induction n with
  | zero => intro v3 hw; exact hw.elim
  | succ n ih =>
    intro v3 hw H locs ls hP hD hS hl
    have hw : w_X1_leastNotLeading_L40b p0_all_size p0_steps p0_firstIn p0_leads p0_otherIn p0_queue post K (w_X1_leastNotLeading_L40 p0_all_size p0_steps p0_firstIn p0_leads p0_otherIn p0_queue post K n) v3 := hw
    unfold w_X1_leastNotLeading_L40b at hw
    refine lv_iload_n hx hb dX1_leastNotLeading_40 rfl (lv_at hl 1 rfl) ?_
    refine lv_aload_n hx hb dX1_leastNotLeading_41 rfl (lv_at hl 0 rfl) ?_
    refine va_get (D := (dC, dI)) (ci := 1) (v := .ref (ad_p0 0)) (C := RX1) (T := TX1) (N := 11) hx hb hts iX1 hown hK hP 0 rfl rfl 0 (by decide) (hts (.fieldLink RX1 14 "NetHouse$Field" "all" "LNetHouse$Markings;") (by decide +kernel)) (fun _ h9 => h9) rfl dX1_leastNotLeading_42 ?_
    refine va_get (D := (dC, dI)) (ci := 4) (v := .int p0_all_size) (C := RX4) (T := TX4) (N := 7) hx hb hts iX4 hown hK hP 1 rfl rfl 6 (by decide) (hts (.fieldLink RX1 59 "NetHouse$Markings" "size" "I") (by decide +kernel)) (fun _ h9 => h9) rfl dX1_leastNotLeading_45 ?_
    refine lv_icmp_ge (tgt := 68) hx hb dX1_leastNotLeading_48 (by decide) (fun c14 => ?_) (fun c15 => ?_)
    · have hw := hw.1 c14
      exact hk _ _ _ _ hw hP hD hS (lv_sub hl [] rfl)
    · have hw := hw.2 c15
      refine lv_aload_n hx hb dX1_leastNotLeading_51 rfl (lv_at hl 0 rfl) ?_
      refine va_get (D := (dC, dI)) (ci := 1) (v := .ref (ad_p0 7)) (C := RX1) (T := TX1) (N := 11) hx hb hts iX1 hown hK hP 0 rfl rfl 7 (by decide) (hts (.fieldLink RX1 44 "NetHouse$Field" "leads" "[I") (by decide +kernel)) (fun _ h9 => h9) rfl dX1_leastNotLeading_52 ?_
      refine lv_iload_n hx hb dX1_leastNotLeading_55 rfl (lv_at hl 1 rfl) ?_
      refine va_iald hx hb hK hP 3 0 rfl rfl hw.1 dX1_leastNotLeading_56 ?_
      have hw := hw.2
      refine lv_if_ne (tgt := 62) hx hb dX1_leastNotLeading_57 (by decide) (fun c16 => ?_) (fun c17 => ?_)
      · have hw := hw.1 c16
        obtain ⟨x18, ex18⟩ : ∃ y : Int32, y = v3 + (1 : Int32) := ⟨_, rfl⟩
        have hw := hw x18 ex18
        refine lv_iinc (v := x18) (lv' := [(3, .int x18), (0, .ref h_p0)]) hx hb dX1_leastNotLeading_62 hl (k := 1) rfl (by rw [ex18]; rfl) (by decide) rfl (fun ls hl => ?_)
        refine lv_goto (tgt := 40) hx hb dX1_leastNotLeading_65 (by decide) ?_
        exact ih _ hw _ _ _ hP hD hS (lv_sub hl [1, 0] rfl)
      · have hw := hw.2 c17
        refine lv_iload_n hx hb dX1_leastNotLeading_60 rfl (lv_at hl 1 rfl) ?_
        exact x_iret (w1 := fun (u : (Nat → Int32) × (Nat → Int32)) => (wld_X1_leastNotLeading cI cJ cZ h_p0 ad_p0 ad_p0_all p0_made p0_turned p0_steps p0_all_width p0_all_size p0_firstIn (u.1) p0_otherIn (u.2))) hx hb hr hlocks (p0_leads, p0_queue) hw hP hD hS dX1_leastNotLeading_61
set_option maxHeartbeats 4000000 in
set_option maxRecDepth 100000 in
theorem c_X1_leastNotLeading {l : Launch} {dC : Nat → ClassId} {dI : Nat → Nat → Nat} {sz : Nat} {cI cJ cZ : ClassId} {h_p0 : Nat} {ad_p0 : Nat → Nat} {ad_p0_all : Nat → Nat} {p0_made : Int32} {p0_turned : Int32} {p0_steps : Int32} {p0_all_width : Int32} {p0_all_size : Int32} {p0_firstIn : Nat → Int32} {p0_leads : Nat → Int32} {p0_otherIn : Nat → Int32} {p0_queue : Nat → Int32} {a1 : Int32} {post : Int32 → (Nat → Int32) → (Nat → Int32) → Prop} (hw : w_X1_leastNotLeading p0_all_size p0_steps p0_firstIn p0_leads p0_otherIn p0_queue a1 post) : Met l yX1_leastNotLeading wsX1_leastNotLeading ({ frames := 1, cells := 0, slots := 0, locals := 26 }) (va_Pc [.ref h_p0, .int a1] (xPre (dC, dI) cI cJ cZ (wld_X1_leastNotLeading cI cJ cZ h_p0 ad_p0 ad_p0_all p0_made p0_turned p0_steps p0_all_width p0_all_size p0_firstIn p0_leads p0_otherIn p0_queue) sz)) (q_X1_leastNotLeading dC dI cI cJ cZ h_p0 ad_p0 ad_p0_all p0_made p0_turned p0_steps p0_all_width p0_all_size p0_firstIn p0_leads p0_otherIn p0_queue post (va_A (wld_X1_leastNotLeading cI cJ cZ h_p0 ad_p0 ad_p0_all p0_made p0_turned p0_steps p0_all_width p0_all_size p0_firstIn p0_leads p0_otherIn p0_queue) sz)) 0 0 (va_A (wld_X1_leastNotLeading cI cJ cZ h_p0 ad_p0 ad_p0_all p0_made p0_turned p0_steps p0_all_width p0_all_size p0_firstIn p0_leads p0_otherIn p0_queue) sz) := by
  refine x_met (cc := cX1_leastNotLeading) (maxL := 4) (ret := (some .int)) (own := RX1) (Qc := fun A => (q_X1_leastNotLeading dC dI cI cJ cZ h_p0 ad_p0 ad_p0_all p0_made p0_turned p0_steps p0_all_width p0_all_size p0_firstIn p0_leads p0_otherIn p0_queue post A)) (by decide) rfl rfl (Nat.le_of_ble_eq_true rfl) ?_
  intro p e s m args below meth c A ls E0 hP hD hS hl
  obtain ⟨hx, hb, hr, hml, hown, hts, hlocks, hK, hA, n1, n2⟩ := id E0
  have iX1 : ∀ w ∈ u_ws RX1 TX1 11, w ∈ wsX1_leastNotLeading := fun w h => List.mem_cons_of_mem _ (List.mem_append_left _ (List.mem_append_right _ h))
  have iX4 : ∀ w ∈ u_ws RX4 TX4 7, w ∈ wsX1_leastNotLeading := fun w h => List.mem_cons_of_mem _ (List.mem_append_right _ h)
  have hS0 := hS
  have hl : lv_has ls 4 [(0, .ref h_p0), (1, .int a1)] := hl
  unfold w_X1_leastNotLeading at hw
  obtain ⟨H, hH⟩ : ∃ H, H = s.heap := ⟨_, rfl⟩
  have hS : va_S A s.heap H [] := by rw [hH]; exact hS
  have hP : va_P (dC, dI) vwCl (wld_X1_leastNotLeading cI cJ cZ h_p0 ad_p0 ad_p0_all p0_made p0_turned p0_steps p0_all_width p0_all_size p0_firstIn p0_leads p0_otherIn p0_queue) H := by rw [hH]; exact hP
  suffices hG : W p l e ({ frames := 1, cells := 0, slots := 0, locals := 26 }) s m args below meth c H [] 0 0 (MQ below (q_X1_leastNotLeading dC dI cI cJ cZ h_p0 ad_p0 ad_p0_all p0_made p0_turned p0_steps p0_all_width p0_all_size p0_firstIn p0_leads p0_otherIn p0_queue post A) args s 0 0 A) (F0 m 0 ls []) by rw [hH] at hG; exact hG
  clear hH
  refine lv_iload_n hx hb dX1_leastNotLeading_0 rfl (lv_at hl 1 rfl) ?_
  refine lv_istore_n (lv' := [(2, .int a1), (0, .ref h_p0), (1, .int a1)]) hx hb dX1_leastNotLeading_1 rfl hl (by decide) rfl (fun ls hl => ?_)
  refine lv_iconst (v := 0) hx hb dX1_leastNotLeading_2 (by decide) ?_
  refine lv_istore_n (lv' := [(3, .int (0 : Int32)), (2, .int a1), (0, .ref h_p0), (1, .int a1)]) hx hb dX1_leastNotLeading_3 rfl hl (by decide) rfl (fun ls hl => ?_)
  obtain ⟨n9, hw⟩ := hw
  refine c_X1_leastNotLeading_L4 (l := l) (z_p0_leads := p0_leads) (z_p0_queue := p0_queue) E0 ?_ n9 _ _ _ _ hw _ _ _ hP hD hS (lv_sub hl [2, 1, 0] rfl)
  · intro v10 v11 s12 s13 H locs ls hw hP hD hS hl
    have hP : va_P (dC, dI) vwCl (wld_X1_leastNotLeading cI cJ cZ h_p0 ad_p0 ad_p0_all p0_made p0_turned p0_steps p0_all_width p0_all_size p0_firstIn s12 p0_otherIn s13) H := hP
    have hD : va_D A (wld_X1_leastNotLeading cI cJ cZ h_p0 ad_p0 ad_p0_all p0_made p0_turned p0_steps p0_all_width p0_all_size p0_firstIn s12 p0_otherIn s13) := hD
    refine lv_iconst (v := 0) hx hb dX1_leastNotLeading_38 (by decide) ?_
    refine lv_istore_n (lv' := [(3, .int (0 : Int32)), (0, .ref h_p0)]) hx hb dX1_leastNotLeading_39 rfl hl (by decide) rfl (fun ls hl => ?_)
    obtain ⟨n19, hw⟩ := hw
    refine c_X1_leastNotLeading_L40 (l := l)  E0 ?_ n19 _ hw _ _ _ hP hD hS (lv_sub hl [1, 0] rfl)
    · intro v20 H locs ls hw hP hD hS hl
      have hP : va_P (dC, dI) vwCl (wld_X1_leastNotLeading cI cJ cZ h_p0 ad_p0 ad_p0_all p0_made p0_turned p0_steps p0_all_width p0_all_size p0_firstIn s12 p0_otherIn s13) H := hP
      have hD : va_D A (wld_X1_leastNotLeading cI cJ cZ h_p0 ad_p0 ad_p0_all p0_made p0_turned p0_steps p0_all_width p0_all_size p0_firstIn s12 p0_otherIn s13) := hD
      refine lv_ldc (v := -2000000005) hx hb hown (hts (.constant RX1 72 (-2000000005)) (by decide +kernel)) dX1_leastNotLeading_68 ?_
      exact x_iret (w1 := fun (u : (Nat → Int32) × (Nat → Int32)) => (wld_X1_leastNotLeading cI cJ cZ h_p0 ad_p0 ad_p0_all p0_made p0_turned p0_steps p0_all_width p0_all_size p0_firstIn (u.1) p0_otherIn (u.2))) hx hb hr hlocks (s12, s13) hw hP hD hS dX1_leastNotLeading_70
abbrev wld_X1_turnRound (cI cJ cZ : ClassId) (h_p0 : Nat) (ad_p0 : Nat → Nat) (ad_p0_all : Nat → Nat) (p0_made : Int32) (p0_turned : Int32) (p0_steps : Int32) (p0_all_width : Int32) (p0_all_size : Int32) (p0_firstIn : Nat → Int32) (p0_nexts : Nat → Int32) (p0_otherIn : Nat → Int32) : va_W := [(h_p0, .inr (1, [.ref (ad_p0 0), .ref (ad_p0 1), .ref (ad_p0 2), .ref (ad_p0 3), .ref (ad_p0 4), .ref (ad_p0 5), .ref (ad_p0 6), .ref (ad_p0 7), .int p0_made, .int p0_turned, .int p0_steps])), ((ad_p0 0), .inr (4, [.ref (ad_p0_all 0), .ref (ad_p0_all 1), .ref (ad_p0_all 2), .ref (ad_p0_all 3), .ref (ad_p0_all 4), .int p0_all_width, .int p0_all_size])), ((ad_p0 4), .inl (cI, 8000, .inl p0_firstIn)), ((ad_p0 3), .inl (cI, 128000, .inl p0_nexts)), ((ad_p0 5), .inl (cI, 128000, .inl p0_otherIn))]
abbrev q_X1_turnRound (dC : Nat → ClassId) (dI : Nat → Nat → Nat) (cI cJ cZ : ClassId) (h_p0 : Nat) (ad_p0 : Nat → Nat) (ad_p0_all : Nat → Nat) (p0_made : Int32) (p0_turned : Int32) (p0_steps : Int32) (p0_all_width : Int32) (p0_all_size : Int32) (p0_firstIn : Nat → Int32) (p0_nexts : Nat → Int32) (p0_otherIn : Nat → Int32) (post : (Int32) → (Nat → Int32) → (Nat → Int32) → Prop) (A : Nat → Prop) : Array Value → State → Outcome → State → Prop := va_Qv (fun (u : (Int32) × (Nat → Int32) × (Nat → Int32)) => post (u.1) (u.2.1) (u.2.2)) (fun (u : (Int32) × (Nat → Int32) × (Nat → Int32)) t => xPost (dC, dI) A (wld_X1_turnRound cI cJ cZ h_p0 ad_p0 ad_p0_all p0_made (u.1) p0_steps p0_all_width p0_all_size (u.2.1) p0_nexts (u.2.2)) t) A
def w_X1_turnRound_L10b (p0_all_size : Int32) (p0_steps : Int32) (p0_turned : Int32) (p0_nexts : Nat → Int32) (p0_otherIn : Nat → Int32) (post : (Int32) → (Nat → Int32) → (Nat → Int32) → Prop) (K : (Int32) → (Nat → Int32) → Prop) (rec : (Int32) → (Nat → Int32) → Prop) (v1 : Int32) (p0_firstIn : Nat → Int32) : Prop :=
    (p0_all_size ≤ v1 →
      K v1 p0_firstIn) ∧
    (¬ p0_all_size ≤ v1 →
      vp_in v1 8000 ∧
      ∀ x5 : Int32, x5 = v1 + (1 : Int32) →
      rec x5 (upd p0_firstIn v1.toNatClampNeg (-1 : Int32)))
def w_X1_turnRound_L10 (p0_all_size : Int32) (p0_steps : Int32) (p0_turned : Int32) (p0_nexts : Nat → Int32) (p0_otherIn : Nat → Int32) (post : (Int32) → (Nat → Int32) → (Nat → Int32) → Prop) (K : (Int32) → (Nat → Int32) → Prop) : Nat → (Int32) → (Nat → Int32) → Prop
  | 0, _, _ => False
  | n + 1, v1, p0_firstIn => w_X1_turnRound_L10b p0_all_size p0_steps p0_turned p0_nexts p0_otherIn post K (w_X1_turnRound_L10 p0_all_size p0_steps p0_turned p0_nexts p0_otherIn post K n) v1 p0_firstIn
def w_X1_turnRound_L36b (p0_all_size : Int32) (p0_steps : Int32) (p0_turned : Int32) (p0_nexts : Nat → Int32) (post : (Int32) → (Nat → Int32) → (Nat → Int32) → Prop) (K : (Int32) → (Nat → Int32) → (Nat → Int32) → Prop) (rec : (Int32) → (Nat → Int32) → (Nat → Int32) → Prop) (v1 : Int32) (p0_firstIn : Nat → Int32) (p0_otherIn : Nat → Int32) : Prop :=
    ((p0_all_size * p0_steps) ≤ v1 →
      K v1 p0_firstIn p0_otherIn) ∧
    (¬ (p0_all_size * p0_steps) ≤ v1 →
      vp_in v1 128000 ∧
      ((p0_nexts v1.toNatClampNeg) < 0 →
        ∀ x13 : Int32, x13 = v1 + (1 : Int32) →
        rec x13 p0_firstIn p0_otherIn) ∧
      (¬ (p0_nexts v1.toNatClampNeg) < 0 →
        vp_in v1 128000 ∧
        vp_in (p0_nexts v1.toNatClampNeg) 8000 ∧
        vp_in v1 128000 ∧
        vp_in v1 128000 ∧
        vp_in (p0_nexts v1.toNatClampNeg) 8000 ∧
        ∀ x14 : Int32, x14 = v1 + (1 : Int32) →
        rec x14 (upd p0_firstIn (p0_nexts v1.toNatClampNeg).toNatClampNeg v1) (upd p0_otherIn v1.toNatClampNeg (p0_firstIn (p0_nexts v1.toNatClampNeg).toNatClampNeg))))
def w_X1_turnRound_L36 (p0_all_size : Int32) (p0_steps : Int32) (p0_turned : Int32) (p0_nexts : Nat → Int32) (post : (Int32) → (Nat → Int32) → (Nat → Int32) → Prop) (K : (Int32) → (Nat → Int32) → (Nat → Int32) → Prop) : Nat → (Int32) → (Nat → Int32) → (Nat → Int32) → Prop
  | 0, _, _, _ => False
  | n + 1, v1, p0_firstIn, p0_otherIn => w_X1_turnRound_L36b p0_all_size p0_steps p0_turned p0_nexts post K (w_X1_turnRound_L36 p0_all_size p0_steps p0_turned p0_nexts post K n) v1 p0_firstIn p0_otherIn
def w_X1_turnRound (p0_all_size : Int32) (p0_steps : Int32) (p0_turned : Int32) (p0_firstIn : Nat → Int32) (p0_nexts : Nat → Int32) (p0_otherIn : Nat → Int32) (post : (Int32) → (Nat → Int32) → (Nat → Int32) → Prop) : Prop :=
  (p0_turned = 0 →
    ∃ n : Nat, w_X1_turnRound_L10 p0_all_size p0_steps p0_turned p0_nexts p0_otherIn post (fun v7 s8 =>
        ∃ n : Nat, w_X1_turnRound_L36 p0_all_size p0_steps p0_turned p0_nexts post (fun v16 s17 s18 =>
            (post (1 : Int32) s17 s18)) n (0 : Int32) s8 p0_otherIn) n (0 : Int32) p0_firstIn) ∧
  (¬ p0_turned = 0 →
    (post p0_turned p0_firstIn p0_otherIn))
set_option maxHeartbeats 4000000 in
set_option maxRecDepth 100000 in
theorem c_X1_turnRound_L10 {p : Program} {l : Launch} {e : Env} {s : State} {m : MethodId} {args : Array Value} {below : List Frame} {meth : Method} {c : Code} {dC : Nat → ClassId} {dI : Nat → Nat → Nat} {A : Nat → Prop} {cI cJ cZ : ClassId} {h_p0 : Nat} {ad_p0 : Nat → Nat} {ad_p0_all : Nat → Nat} {p0_made : Int32} {p0_turned : Int32} {p0_steps : Int32} {p0_all_width : Int32} {p0_all_size : Int32} {p0_nexts : Nat → Int32} {p0_otherIn : Nat → Int32} {z_p0_firstIn : Nat → Int32} {post : (Int32) → (Nat → Int32) → (Nat → Int32) → Prop} {K : (Int32) → (Nat → Int32) → Prop} (E0 : xEnv p s m args meth c cX1_turnRound none 2 RX1 wsX1_turnRound (dC, dI) cI cJ cZ A) (hk : ∀ (v1 : Int32) (p0_firstIn : Nat → Int32) (H : Heap) (locs : List Loc) (ls : Array Slot), K v1 p0_firstIn → va_P (dC, dI) vwCl (wld_X1_turnRound cI cJ cZ h_p0 ad_p0 ad_p0_all p0_made p0_turned p0_steps p0_all_width p0_all_size p0_firstIn p0_nexts p0_otherIn) H → va_D A (wld_X1_turnRound cI cJ cZ h_p0 ad_p0 ad_p0_all p0_made p0_turned p0_steps p0_all_width p0_all_size p0_firstIn p0_nexts p0_otherIn) → va_S A s.heap H locs → lv_has ls 2 [(0, .ref h_p0)] → W p l e ({ frames := 0, cells := 0, slots := 0, locals := 0 }) s m args below meth c H locs 0 0 (MQ below (q_X1_turnRound dC dI cI cJ cZ h_p0 ad_p0 ad_p0_all p0_made p0_turned p0_steps p0_all_width p0_all_size z_p0_firstIn p0_nexts p0_otherIn post A) args s 0 0 A) (F0 m 34 ls [])) : ∀ (n : Nat) (v1 : Int32) (p0_firstIn : Nat → Int32), w_X1_turnRound_L10 p0_all_size p0_steps p0_turned p0_nexts p0_otherIn post K n v1 p0_firstIn → ∀ (H : Heap) (locs : List Loc) (ls : Array Slot), va_P (dC, dI) vwCl (wld_X1_turnRound cI cJ cZ h_p0 ad_p0 ad_p0_all p0_made p0_turned p0_steps p0_all_width p0_all_size p0_firstIn p0_nexts p0_otherIn) H → va_D A (wld_X1_turnRound cI cJ cZ h_p0 ad_p0 ad_p0_all p0_made p0_turned p0_steps p0_all_width p0_all_size p0_firstIn p0_nexts p0_otherIn) → va_S A s.heap H locs → lv_has ls 2 [(0, .ref h_p0), (1, .int v1)] → W p l e ({ frames := 0, cells := 0, slots := 0, locals := 0 }) s m args below meth c H locs 0 0 (MQ below (q_X1_turnRound dC dI cI cJ cZ h_p0 ad_p0 ad_p0_all p0_made p0_turned p0_steps p0_all_width p0_all_size z_p0_firstIn p0_nexts p0_otherIn post A) args s 0 0 A) (F0 m 10 ls []) := by
  obtain ⟨hx, hb, hr, hml, hown, hts, hlocks, hK, hA, n1, n2⟩ := id E0
  have iX1 : ∀ w ∈ u_ws RX1 TX1 11, w ∈ wsX1_turnRound := fun w h => List.mem_cons_of_mem _ (List.mem_append_left _ (List.mem_append_right _ h))
  have iX4 : ∀ w ∈ u_ws RX4 TX4 7, w ∈ wsX1_turnRound := fun w h => List.mem_cons_of_mem _ (List.mem_append_right _ h)
  intro n
  induction n with
  | zero => intro v1 p0_firstIn hw; exact hw.elim
  | succ n ih =>
    intro v1 p0_firstIn hw H locs ls hP hD hS hl
    have hw : w_X1_turnRound_L10b p0_all_size p0_steps p0_turned p0_nexts p0_otherIn post K (w_X1_turnRound_L10 p0_all_size p0_steps p0_turned p0_nexts p0_otherIn post K n) v1 p0_firstIn := hw
    unfold w_X1_turnRound_L10b at hw
    refine lv_iload_n hx hb dX1_turnRound_10 rfl (lv_at hl 1 rfl) ?_
    refine lv_aload_n hx hb dX1_turnRound_11 rfl (lv_at hl 0 rfl) ?_
    refine va_get (D := (dC, dI)) (ci := 1) (v := .ref (ad_p0 0)) (C := RX1) (T := TX1) (N := 11) hx hb hts iX1 hown hK hP 0 rfl rfl 0 (by decide) (hts (.fieldLink RX1 14 "NetHouse$Field" "all" "LNetHouse$Markings;") (by decide +kernel)) (fun _ h9 => h9) rfl dX1_turnRound_12 ?_
    refine va_get (D := (dC, dI)) (ci := 4) (v := .int p0_all_size) (C := RX4) (T := TX4) (N := 7) hx hb hts iX4 hown hK hP 1 rfl rfl 6 (by decide) (hts (.fieldLink RX1 59 "NetHouse$Markings" "size" "I") (by decide +kernel)) (fun _ h9 => h9) rfl dX1_turnRound_15 ?_
    refine lv_icmp_ge (tgt := 34) hx hb dX1_turnRound_18 (by decide) (fun c3 => ?_) (fun c4 => ?_)
    · have hw := hw.1 c3
      exact hk _ _ _ _ _ hw hP hD hS (lv_sub hl [0] rfl)
    · have hw := hw.2 c4
      refine lv_aload_n hx hb dX1_turnRound_21 rfl (lv_at hl 0 rfl) ?_
      refine va_get (D := (dC, dI)) (ci := 1) (v := .ref (ad_p0 4)) (C := RX1) (T := TX1) (N := 11) hx hb hts iX1 hown hK hP 0 rfl rfl 4 (by decide) (hts (.fieldLink RX1 35 "NetHouse$Field" "firstIn" "[I") (by decide +kernel)) (fun _ h9 => h9) rfl dX1_turnRound_22 ?_
      refine lv_iload_n hx hb dX1_turnRound_25 rfl (lv_at hl 1 rfl) ?_
      refine lv_iconst (v := -1) hx hb dX1_turnRound_26 (by decide) ?_
      refine va_iast hx hb hK hP hD hS 2 0 rfl rfl hw.1 dX1_turnRound_27 (fun H locs hP hD hS => ?_)
      have hw := hw.2
      have hP : va_P (dC, dI) vwCl (wld_X1_turnRound cI cJ cZ h_p0 ad_p0 ad_p0_all p0_made p0_turned p0_steps p0_all_width p0_all_size (upd p0_firstIn v1.toNatClampNeg (-1 : Int32)) p0_nexts p0_otherIn) H := hP
      have hD : va_D A (wld_X1_turnRound cI cJ cZ h_p0 ad_p0 ad_p0_all p0_made p0_turned p0_steps p0_all_width p0_all_size (upd p0_firstIn v1.toNatClampNeg (-1 : Int32)) p0_nexts p0_otherIn) := hD
      obtain ⟨x5, ex5⟩ : ∃ y : Int32, y = v1 + (1 : Int32) := ⟨_, rfl⟩
      have hw := hw x5 ex5
      refine lv_iinc (v := x5) (lv' := [(1, .int x5), (0, .ref h_p0)]) hx hb dX1_turnRound_28 hl (k := 1) rfl (by rw [ex5]; rfl) (by decide) rfl (fun ls hl => ?_)
      refine lv_goto (tgt := 10) hx hb dX1_turnRound_31 (by decide) ?_
      exact ih _ _ hw _ _ _ hP hD hS (lv_sub hl [1, 0] rfl)
set_option maxHeartbeats 4000000 in
set_option maxRecDepth 100000 in
theorem c_X1_turnRound_L36 {p : Program} {l : Launch} {e : Env} {s : State} {m : MethodId} {args : Array Value} {below : List Frame} {meth : Method} {c : Code} {dC : Nat → ClassId} {dI : Nat → Nat → Nat} {A : Nat → Prop} {cI cJ cZ : ClassId} {h_p0 : Nat} {ad_p0 : Nat → Nat} {ad_p0_all : Nat → Nat} {p0_made : Int32} {p0_turned : Int32} {p0_steps : Int32} {p0_all_width : Int32} {p0_all_size : Int32} {p0_nexts : Nat → Int32} {z_p0_firstIn : Nat → Int32} {z_p0_otherIn : Nat → Int32} {post : (Int32) → (Nat → Int32) → (Nat → Int32) → Prop} {K : (Int32) → (Nat → Int32) → (Nat → Int32) → Prop} (E0 : xEnv p s m args meth c cX1_turnRound none 2 RX1 wsX1_turnRound (dC, dI) cI cJ cZ A) (hk : ∀ (v1 : Int32) (p0_firstIn : Nat → Int32) (p0_otherIn : Nat → Int32) (H : Heap) (locs : List Loc) (ls : Array Slot), K v1 p0_firstIn p0_otherIn → va_P (dC, dI) vwCl (wld_X1_turnRound cI cJ cZ h_p0 ad_p0 ad_p0_all p0_made p0_turned p0_steps p0_all_width p0_all_size p0_firstIn p0_nexts p0_otherIn) H → va_D A (wld_X1_turnRound cI cJ cZ h_p0 ad_p0 ad_p0_all p0_made p0_turned p0_steps p0_all_width p0_all_size p0_firstIn p0_nexts p0_otherIn) → va_S A s.heap H locs → lv_has ls 2 [(0, .ref h_p0)] → W p l e ({ frames := 0, cells := 0, slots := 0, locals := 0 }) s m args below meth c H locs 0 0 (MQ below (q_X1_turnRound dC dI cI cJ cZ h_p0 ad_p0 ad_p0_all p0_made p0_turned p0_steps p0_all_width p0_all_size z_p0_firstIn p0_nexts z_p0_otherIn post A) args s 0 0 A) (F0 m 96 ls [])) : ∀ (n : Nat) (v1 : Int32) (p0_firstIn : Nat → Int32) (p0_otherIn : Nat → Int32), w_X1_turnRound_L36 p0_all_size p0_steps p0_turned p0_nexts post K n v1 p0_firstIn p0_otherIn → ∀ (H : Heap) (locs : List Loc) (ls : Array Slot), va_P (dC, dI) vwCl (wld_X1_turnRound cI cJ cZ h_p0 ad_p0 ad_p0_all p0_made p0_turned p0_steps p0_all_width p0_all_size p0_firstIn p0_nexts p0_otherIn) H → va_D A (wld_X1_turnRound cI cJ cZ h_p0 ad_p0 ad_p0_all p0_made p0_turned p0_steps p0_all_width p0_all_size p0_firstIn p0_nexts p0_otherIn) → va_S A s.heap H locs → lv_has ls 2 [(0, .ref h_p0), (1, .int v1)] → W p l e ({ frames := 0, cells := 0, slots := 0, locals := 0 }) s m args below meth c H locs 0 0 (MQ below (q_X1_turnRound dC dI cI cJ cZ h_p0 ad_p0 ad_p0_all p0_made p0_turned p0_steps p0_all_width p0_all_size z_p0_firstIn p0_nexts z_p0_otherIn post A) args s 0 0 A) (F0 m 36 ls []) := by
  obtain ⟨hx, hb, hr, hml, hown, hts, hlocks, hK, hA, n1, n2⟩ := id E0
  have iX1 : ∀ w ∈ u_ws RX1 TX1 11, w ∈ wsX1_turnRound := fun w h => List.mem_cons_of_mem _ (List.mem_append_left _ (List.mem_append_right _ h))
  have iX4 : ∀ w ∈ u_ws RX4 TX4 7, w ∈ wsX1_turnRound := fun w h => List.mem_cons_of_mem _ (List.mem_append_right _ h)
  intro n
  induction n with
  | zero => intro v1 p0_firstIn p0_otherIn hw; exact hw.elim
  | succ n ih =>
    intro v1 p0_firstIn p0_otherIn hw H locs ls hP hD hS hl
    have hw : w_X1_turnRound_L36b p0_all_size p0_steps p0_turned p0_nexts post K (w_X1_turnRound_L36 p0_all_size p0_steps p0_turned p0_nexts post K n) v1 p0_firstIn p0_otherIn := hw
    unfold w_X1_turnRound_L36b at hw
    refine lv_iload_n hx hb dX1_turnRound_36 rfl (lv_at hl 1 rfl) ?_
    refine lv_aload_n hx hb dX1_turnRound_37 rfl (lv_at hl 0 rfl) ?_
    refine va_get (D := (dC, dI)) (ci := 1) (v := .ref (ad_p0 0)) (C := RX1) (T := TX1) (N := 11) hx hb hts iX1 hown hK hP 0 rfl rfl 0 (by decide) (hts (.fieldLink RX1 14 "NetHouse$Field" "all" "LNetHouse$Markings;") (by decide +kernel)) (fun _ h9 => h9) rfl dX1_turnRound_38 ?_
    refine va_get (D := (dC, dI)) (ci := 4) (v := .int p0_all_size) (C := RX4) (T := TX4) (N := 7) hx hb hts iX4 hown hK hP 1 rfl rfl 6 (by decide) (hts (.fieldLink RX1 59 "NetHouse$Markings" "size" "I") (by decide +kernel)) (fun _ h9 => h9) rfl dX1_turnRound_41 ?_
    refine lv_aload_n hx hb dX1_turnRound_44 rfl (lv_at hl 0 rfl) ?_
    refine va_get (D := (dC, dI)) (ci := 1) (v := .int p0_steps) (C := RX1) (T := TX1) (N := 11) hx hb hts iX1 hown hK hP 0 rfl rfl 10 (by decide) (hts (.fieldLink RX1 54 "NetHouse$Field" "steps" "I") (by decide +kernel)) (fun _ h9 => h9) rfl dX1_turnRound_45 ?_
    refine lv_imul hx hb dX1_turnRound_48 ?_
    refine lv_icmp_ge (tgt := 96) hx hb dX1_turnRound_49 (by decide) (fun c9 => ?_) (fun c10 => ?_)
    · have hw := hw.1 c9
      exact hk _ _ _ _ _ _ hw hP hD hS (lv_sub hl [0] rfl)
    · have hw := hw.2 c10
      refine lv_aload_n hx hb dX1_turnRound_52 rfl (lv_at hl 0 rfl) ?_
      refine va_get (D := (dC, dI)) (ci := 1) (v := .ref (ad_p0 3)) (C := RX1) (T := TX1) (N := 11) hx hb hts iX1 hown hK hP 0 rfl rfl 3 (by decide) (hts (.fieldLink RX1 31 "NetHouse$Field" "nexts" "[I") (by decide +kernel)) (fun _ h9 => h9) rfl dX1_turnRound_53 ?_
      refine lv_iload_n hx hb dX1_turnRound_56 rfl (lv_at hl 1 rfl) ?_
      refine va_iald hx hb hK hP 3 0 rfl rfl hw.1 dX1_turnRound_57 ?_
      have hw := hw.2
      refine lv_if_lt (tgt := 90) hx hb dX1_turnRound_58 (by decide) (fun c11 => ?_) (fun c12 => ?_)
      · have hw := hw.1 c11
        obtain ⟨x13, ex13⟩ : ∃ y : Int32, y = v1 + (1 : Int32) := ⟨_, rfl⟩
        have hw := hw x13 ex13
        refine lv_iinc (v := x13) (lv' := [(1, .int x13), (0, .ref h_p0)]) hx hb dX1_turnRound_90 hl (k := 1) rfl (by rw [ex13]; rfl) (by decide) rfl (fun ls hl => ?_)
        refine lv_goto (tgt := 36) hx hb dX1_turnRound_93 (by decide) ?_
        exact ih _ _ _ hw _ _ _ hP hD hS (lv_sub hl [1, 0] rfl)
      · have hw := hw.2 c12
        refine lv_aload_n hx hb dX1_turnRound_61 rfl (lv_at hl 0 rfl) ?_
        refine va_get (D := (dC, dI)) (ci := 1) (v := .ref (ad_p0 5)) (C := RX1) (T := TX1) (N := 11) hx hb hts iX1 hown hK hP 0 rfl rfl 5 (by decide) (hts (.fieldLink RX1 38 "NetHouse$Field" "otherIn" "[I") (by decide +kernel)) (fun _ h9 => h9) rfl dX1_turnRound_62 ?_
        refine lv_iload_n hx hb dX1_turnRound_65 rfl (lv_at hl 1 rfl) ?_
        refine lv_aload_n hx hb dX1_turnRound_66 rfl (lv_at hl 0 rfl) ?_
        refine va_get (D := (dC, dI)) (ci := 1) (v := .ref (ad_p0 4)) (C := RX1) (T := TX1) (N := 11) hx hb hts iX1 hown hK hP 0 rfl rfl 4 (by decide) (hts (.fieldLink RX1 35 "NetHouse$Field" "firstIn" "[I") (by decide +kernel)) (fun _ h9 => h9) rfl dX1_turnRound_67 ?_
        refine lv_aload_n hx hb dX1_turnRound_70 rfl (lv_at hl 0 rfl) ?_
        refine va_get (D := (dC, dI)) (ci := 1) (v := .ref (ad_p0 3)) (C := RX1) (T := TX1) (N := 11) hx hb hts iX1 hown hK hP 0 rfl rfl 3 (by decide) (hts (.fieldLink RX1 31 "NetHouse$Field" "nexts" "[I") (by decide +kernel)) (fun _ h9 => h9) rfl dX1_turnRound_71 ?_
        refine lv_iload_n hx hb dX1_turnRound_74 rfl (lv_at hl 1 rfl) ?_
        refine va_iald hx hb hK hP 3 0 rfl rfl hw.1 dX1_turnRound_75 ?_
        have hw := hw.2
        refine va_iald hx hb hK hP 2 0 rfl rfl hw.1 dX1_turnRound_76 ?_
        have hw := hw.2
        refine va_iast hx hb hK hP hD hS 4 0 rfl rfl hw.1 dX1_turnRound_77 (fun H locs hP hD hS => ?_)
        have hw := hw.2
        have hP : va_P (dC, dI) vwCl (wld_X1_turnRound cI cJ cZ h_p0 ad_p0 ad_p0_all p0_made p0_turned p0_steps p0_all_width p0_all_size p0_firstIn p0_nexts (upd p0_otherIn v1.toNatClampNeg (p0_firstIn (p0_nexts v1.toNatClampNeg).toNatClampNeg))) H := hP
        have hD : va_D A (wld_X1_turnRound cI cJ cZ h_p0 ad_p0 ad_p0_all p0_made p0_turned p0_steps p0_all_width p0_all_size p0_firstIn p0_nexts (upd p0_otherIn v1.toNatClampNeg (p0_firstIn (p0_nexts v1.toNatClampNeg).toNatClampNeg))) := hD
        refine lv_aload_n hx hb dX1_turnRound_78 rfl (lv_at hl 0 rfl) ?_
        refine va_get (D := (dC, dI)) (ci := 1) (v := .ref (ad_p0 4)) (C := RX1) (T := TX1) (N := 11) hx hb hts iX1 hown hK hP 0 rfl rfl 4 (by decide) (hts (.fieldLink RX1 35 "NetHouse$Field" "firstIn" "[I") (by decide +kernel)) (fun _ h9 => h9) rfl dX1_turnRound_79 ?_
        refine lv_aload_n hx hb dX1_turnRound_82 rfl (lv_at hl 0 rfl) ?_
        refine va_get (D := (dC, dI)) (ci := 1) (v := .ref (ad_p0 3)) (C := RX1) (T := TX1) (N := 11) hx hb hts iX1 hown hK hP 0 rfl rfl 3 (by decide) (hts (.fieldLink RX1 31 "NetHouse$Field" "nexts" "[I") (by decide +kernel)) (fun _ h9 => h9) rfl dX1_turnRound_83 ?_
        refine lv_iload_n hx hb dX1_turnRound_86 rfl (lv_at hl 1 rfl) ?_
        refine va_iald hx hb hK hP 3 0 rfl rfl hw.1 dX1_turnRound_87 ?_
        have hw := hw.2
        refine lv_iload_n hx hb dX1_turnRound_88 rfl (lv_at hl 1 rfl) ?_
        refine va_iast hx hb hK hP hD hS 2 0 rfl rfl hw.1 dX1_turnRound_89 (fun H locs hP hD hS => ?_)
        have hw := hw.2
        have hP : va_P (dC, dI) vwCl (wld_X1_turnRound cI cJ cZ h_p0 ad_p0 ad_p0_all p0_made p0_turned p0_steps p0_all_width p0_all_size (upd p0_firstIn (p0_nexts v1.toNatClampNeg).toNatClampNeg v1) p0_nexts (upd p0_otherIn v1.toNatClampNeg (p0_firstIn (p0_nexts v1.toNatClampNeg).toNatClampNeg))) H := hP
        have hD : va_D A (wld_X1_turnRound cI cJ cZ h_p0 ad_p0 ad_p0_all p0_made p0_turned p0_steps p0_all_width p0_all_size (upd p0_firstIn (p0_nexts v1.toNatClampNeg).toNatClampNeg v1) p0_nexts (upd p0_otherIn v1.toNatClampNeg (p0_firstIn (p0_nexts v1.toNatClampNeg).toNatClampNeg))) := hD
        obtain ⟨x14, ex14⟩ : ∃ y : Int32, y = v1 + (1 : Int32) := ⟨_, rfl⟩
        have hw := hw x14 ex14
        refine lv_iinc (v := x14) (lv' := [(1, .int x14), (0, .ref h_p0)]) hx hb dX1_turnRound_90 hl (k := 1) rfl (by rw [ex14]; rfl) (by decide) rfl (fun ls hl => ?_)
        refine lv_goto (tgt := 36) hx hb dX1_turnRound_93 (by decide) ?_
        exact ih _ _ _ hw _ _ _ hP hD hS (lv_sub hl [1, 0] rfl)
set_option maxHeartbeats 4000000 in
set_option maxRecDepth 100000 in
theorem c_X1_turnRound {l : Launch} {dC : Nat → ClassId} {dI : Nat → Nat → Nat} {sz : Nat} {cI cJ cZ : ClassId} {h_p0 : Nat} {ad_p0 : Nat → Nat} {ad_p0_all : Nat → Nat} {p0_made : Int32} {p0_turned : Int32} {p0_steps : Int32} {p0_all_width : Int32} {p0_all_size : Int32} {p0_firstIn : Nat → Int32} {p0_nexts : Nat → Int32} {p0_otherIn : Nat → Int32}  {post : (Int32) → (Nat → Int32) → (Nat → Int32) → Prop} (hw : w_X1_turnRound p0_all_size p0_steps p0_turned p0_firstIn p0_nexts p0_otherIn post) : Met l yX1_turnRound wsX1_turnRound ({ frames := 0, cells := 0, slots := 0, locals := 0 }) (va_Pc [.ref h_p0] (xPre (dC, dI) cI cJ cZ (wld_X1_turnRound cI cJ cZ h_p0 ad_p0 ad_p0_all p0_made p0_turned p0_steps p0_all_width p0_all_size p0_firstIn p0_nexts p0_otherIn) sz)) (q_X1_turnRound dC dI cI cJ cZ h_p0 ad_p0 ad_p0_all p0_made p0_turned p0_steps p0_all_width p0_all_size p0_firstIn p0_nexts p0_otherIn post (va_A (wld_X1_turnRound cI cJ cZ h_p0 ad_p0 ad_p0_all p0_made p0_turned p0_steps p0_all_width p0_all_size p0_firstIn p0_nexts p0_otherIn) sz)) 0 0 (va_A (wld_X1_turnRound cI cJ cZ h_p0 ad_p0 ad_p0_all p0_made p0_turned p0_steps p0_all_width p0_all_size p0_firstIn p0_nexts p0_otherIn) sz) := by
  refine x_met (cc := cX1_turnRound) (maxL := 2) (ret := none) (own := RX1) (Qc := fun A => (q_X1_turnRound dC dI cI cJ cZ h_p0 ad_p0 ad_p0_all p0_made p0_turned p0_steps p0_all_width p0_all_size p0_firstIn p0_nexts p0_otherIn post A)) (by decide) rfl rfl (Nat.le_of_ble_eq_true rfl) ?_
  intro p e s m args below meth c A ls E0 hP hD hS hl
  obtain ⟨hx, hb, hr, hml, hown, hts, hlocks, hK, hA, n1, n2⟩ := id E0
  have iX1 : ∀ w ∈ u_ws RX1 TX1 11, w ∈ wsX1_turnRound := fun w h => List.mem_cons_of_mem _ (List.mem_append_left _ (List.mem_append_right _ h))
  have iX4 : ∀ w ∈ u_ws RX4 TX4 7, w ∈ wsX1_turnRound := fun w h => List.mem_cons_of_mem _ (List.mem_append_right _ h)
  have hS0 := hS
  have hl : lv_has ls 2 [(0, .ref h_p0)] := hl
  unfold w_X1_turnRound at hw
  obtain ⟨H, hH⟩ : ∃ H, H = s.heap := ⟨_, rfl⟩
  have hS : va_S A s.heap H [] := by rw [hH]; exact hS
  have hP : va_P (dC, dI) vwCl (wld_X1_turnRound cI cJ cZ h_p0 ad_p0 ad_p0_all p0_made p0_turned p0_steps p0_all_width p0_all_size p0_firstIn p0_nexts p0_otherIn) H := by rw [hH]; exact hP
  suffices hG : W p l e ({ frames := 0, cells := 0, slots := 0, locals := 0 }) s m args below meth c H [] 0 0 (MQ below (q_X1_turnRound dC dI cI cJ cZ h_p0 ad_p0 ad_p0_all p0_made p0_turned p0_steps p0_all_width p0_all_size p0_firstIn p0_nexts p0_otherIn post A) args s 0 0 A) (F0 m 0 ls []) by rw [hH] at hG; exact hG
  clear hH
  refine lv_aload_n hx hb dX1_turnRound_0 rfl (lv_at hl 0 rfl) ?_
  refine va_get (D := (dC, dI)) (ci := 1) (v := .int p0_turned) (C := RX1) (T := TX1) (N := 11) hx hb hts iX1 hown hK hP 0 rfl rfl 9 (by decide) (hts (.fieldLink RX1 51 "NetHouse$Field" "turned" "Z") (by decide +kernel)) (fun _ h9 => h9) rfl dX1_turnRound_1 ?_
  refine lv_if_eq (tgt := 8) hx hb dX1_turnRound_4 (by decide) (fun c1 => ?_) (fun c2 => ?_)
  · have hw := hw.1 c1
    refine lv_iconst (v := 0) hx hb dX1_turnRound_8 (by decide) ?_
    refine lv_istore_n (lv' := [(1, .int (0 : Int32)), (0, .ref h_p0)]) hx hb dX1_turnRound_9 rfl hl (by decide) rfl (fun ls hl => ?_)
    obtain ⟨n6, hw⟩ := hw
    refine c_X1_turnRound_L10 (l := l) (z_p0_firstIn := p0_firstIn) E0 ?_ n6 _ _ hw _ _ _ hP hD hS (lv_sub hl [1, 0] rfl)
    · intro v7 s8 H locs ls hw hP hD hS hl
      have hP : va_P (dC, dI) vwCl (wld_X1_turnRound cI cJ cZ h_p0 ad_p0 ad_p0_all p0_made p0_turned p0_steps p0_all_width p0_all_size s8 p0_nexts p0_otherIn) H := hP
      have hD : va_D A (wld_X1_turnRound cI cJ cZ h_p0 ad_p0 ad_p0_all p0_made p0_turned p0_steps p0_all_width p0_all_size s8 p0_nexts p0_otherIn) := hD
      refine lv_iconst (v := 0) hx hb dX1_turnRound_34 (by decide) ?_
      refine lv_istore_n (lv' := [(1, .int (0 : Int32)), (0, .ref h_p0)]) hx hb dX1_turnRound_35 rfl hl (by decide) rfl (fun ls hl => ?_)
      obtain ⟨n15, hw⟩ := hw
      refine c_X1_turnRound_L36 (l := l) (z_p0_firstIn := s8) (z_p0_otherIn := p0_otherIn) E0 ?_ n15 _ _ _ hw _ _ _ hP hD hS (lv_sub hl [1, 0] rfl)
      · intro v16 s17 s18 H locs ls hw hP hD hS hl
        have hP : va_P (dC, dI) vwCl (wld_X1_turnRound cI cJ cZ h_p0 ad_p0 ad_p0_all p0_made p0_turned p0_steps p0_all_width p0_all_size s17 p0_nexts s18) H := hP
        have hD : va_D A (wld_X1_turnRound cI cJ cZ h_p0 ad_p0 ad_p0_all p0_made p0_turned p0_steps p0_all_width p0_all_size s17 p0_nexts s18) := hD
        refine lv_aload_n hx hb dX1_turnRound_96 rfl (lv_at hl 0 rfl) ?_
        refine lv_iconst (v := 1) hx hb dX1_turnRound_97 (by decide) ?_
        refine va_put (D := (dC, dI)) (ci := 1) (v := .int (1 : Int32)) (ty := .boolean) (C := RX1) (T := TX1) (N := 11) hx hb hts iX1 tyX1 tyX1_ok nmX1 hown hK hP hD hS 0 rfl rfl 9 (by decide) (hts (.fieldLink RX1 51 "NetHouse$Field" "turned" "Z") (by decide +kernel)) (fun _ h9 => h9) rfl (by decide +kernel) (by decide) (by decide) (Nat.le_of_ble_eq_true rfl) dX1_turnRound_98 (fun H locs hP hD hS => ?_)
        have hP : va_P (dC, dI) vwCl (wld_X1_turnRound cI cJ cZ h_p0 ad_p0 ad_p0_all p0_made (1 : Int32) p0_steps p0_all_width p0_all_size s17 p0_nexts s18) H := hP
        have hD : va_D A (wld_X1_turnRound cI cJ cZ h_p0 ad_p0 ad_p0_all p0_made (1 : Int32) p0_steps p0_all_width p0_all_size s17 p0_nexts s18) := hD
        exact x_vret (w1 := fun (u : (Int32) × (Nat → Int32) × (Nat → Int32)) => (wld_X1_turnRound cI cJ cZ h_p0 ad_p0 ad_p0_all p0_made (u.1) p0_steps p0_all_width p0_all_size (u.2.1) p0_nexts (u.2.2))) hx hb hr hlocks ((1 : Int32), s17, s18) hw hP hD hS dX1_turnRound_101
  · have hw := hw.2 c2
    exact x_vret (w1 := fun (u : (Int32) × (Nat → Int32) × (Nat → Int32)) => (wld_X1_turnRound cI cJ cZ h_p0 ad_p0 ad_p0_all p0_made (u.1) p0_steps p0_all_width p0_all_size (u.2.1) p0_nexts (u.2.2))) hx hb hr hlocks (p0_turned, p0_firstIn, p0_otherIn) hw hP hD hS dX1_turnRound_7
abbrev wld_X1_leastWithout (cI cJ cZ : ClassId) (h_p0 : Nat) (ad_p0 : Nat → Nat) (ad_p0_all : Nat → Nat) (p0_made : Int32) (p0_turned : Int32) (p0_steps : Int32) (p0_all_width : Int32) (p0_all_size : Int32) (p0_firstIn : Nat → Int32) (p0_leads : Nat → Int32) (p0_nexts : Nat → Int32) (p0_otherIn : Nat → Int32) (p0_queue : Nat → Int32) : va_W := [(h_p0, .inr (1, [.ref (ad_p0 0), .ref (ad_p0 1), .ref (ad_p0 2), .ref (ad_p0 3), .ref (ad_p0 4), .ref (ad_p0 5), .ref (ad_p0 6), .ref (ad_p0 7), .int p0_made, .int p0_turned, .int p0_steps])), ((ad_p0 0), .inr (4, [.ref (ad_p0_all 0), .ref (ad_p0_all 1), .ref (ad_p0_all 2), .ref (ad_p0_all 3), .ref (ad_p0_all 4), .int p0_all_width, .int p0_all_size])), ((ad_p0 4), .inl (cI, 8000, .inl p0_firstIn)), ((ad_p0 7), .inl (cI, 8000, .inl p0_leads)), ((ad_p0 3), .inl (cI, 128000, .inl p0_nexts)), ((ad_p0 5), .inl (cI, 128000, .inl p0_otherIn)), ((ad_p0 6), .inl (cI, 8000, .inl p0_queue))]
abbrev q_X1_leastWithout (dC : Nat → ClassId) (dI : Nat → Nat → Nat) (cI cJ cZ : ClassId) (h_p0 : Nat) (ad_p0 : Nat → Nat) (ad_p0_all : Nat → Nat) (p0_made : Int32) (p0_turned : Int32) (p0_steps : Int32) (p0_all_width : Int32) (p0_all_size : Int32) (p0_firstIn : Nat → Int32) (p0_leads : Nat → Int32) (p0_nexts : Nat → Int32) (p0_otherIn : Nat → Int32) (p0_queue : Nat → Int32) (post : Int32 → (Int32) → (Nat → Int32) → (Nat → Int32) → (Nat → Int32) → (Nat → Int32) → Prop) (A : Nat → Prop) : Array Value → State → Outcome → State → Prop := va_Qi (fun r (u : (Int32) × (Nat → Int32) × (Nat → Int32) × (Nat → Int32) × (Nat → Int32)) => post r (u.1) (u.2.1) (u.2.2.1) (u.2.2.2.1) (u.2.2.2.2)) (fun (u : (Int32) × (Nat → Int32) × (Nat → Int32) × (Nat → Int32) × (Nat → Int32)) t => xPost (dC, dI) A (wld_X1_leastWithout cI cJ cZ h_p0 ad_p0 ad_p0_all p0_made (u.1) p0_steps p0_all_width p0_all_size (u.2.1) (u.2.2.1) p0_nexts (u.2.2.2.1) (u.2.2.2.2)) t) A
def w_X1_leastWithout_L8b (v1 : Int32) (p0_all_size : Int32) (p0_steps : Int32) (p0_turned : Int32) (p0_firstIn : Nat → Int32) (p0_nexts : Nat → Int32) (p0_otherIn : Nat → Int32) (post : Int32 → (Int32) → (Nat → Int32) → (Nat → Int32) → (Nat → Int32) → (Nat → Int32) → Prop) (K : (Int32) → (Int32) → (Nat → Int32) → (Nat → Int32) → Prop) (rec : (Int32) → (Int32) → (Nat → Int32) → (Nat → Int32) → Prop) (v2 : Int32) (v3 : Int32) (p0_leads : Nat → Int32) (p0_queue : Nat → Int32) : Prop :=
    (p0_all_size ≤ v3 →
      K v2 v3 p0_leads p0_queue) ∧
    (¬ p0_all_size ≤ v3 →
      w_X1_leadsFrom p0_steps p0_nexts v3 v1 (fun r6 =>
      (r6 < 0 →
        vp_in v3 8000 ∧
        vp_in v3 8000 ∧
        (¬ ((upd p0_leads v3.toNatClampNeg (0 : Int32)) v3.toNatClampNeg) = (1 : Int32) →
          ∀ x11 : Int32, x11 = v3 + (1 : Int32) →
          rec v2 x11 (upd p0_leads v3.toNatClampNeg (0 : Int32)) p0_queue) ∧
        (((upd p0_leads v3.toNatClampNeg (0 : Int32)) v3.toNatClampNeg) = (1 : Int32) →
          vp_in v2 8000 ∧
          ∀ x12 : Int32, x12 = v2 + (1 : Int32) →
          ∀ x13 : Int32, x13 = v3 + (1 : Int32) →
          rec x12 x13 (upd p0_leads v3.toNatClampNeg (0 : Int32)) (upd p0_queue v2.toNatClampNeg v3))) ∧
      (¬ r6 < 0 →
        vp_in v3 8000 ∧
        vp_in v3 8000 ∧
        (¬ ((upd p0_leads v3.toNatClampNeg (1 : Int32)) v3.toNatClampNeg) = (1 : Int32) →
          ∀ x16 : Int32, x16 = v3 + (1 : Int32) →
          rec v2 x16 (upd p0_leads v3.toNatClampNeg (1 : Int32)) p0_queue) ∧
        (((upd p0_leads v3.toNatClampNeg (1 : Int32)) v3.toNatClampNeg) = (1 : Int32) →
          vp_in v2 8000 ∧
          ∀ x17 : Int32, x17 = v2 + (1 : Int32) →
          ∀ x18 : Int32, x18 = v3 + (1 : Int32) →
          rec x17 x18 (upd p0_leads v3.toNatClampNeg (1 : Int32)) (upd p0_queue v2.toNatClampNeg v3)))))
def w_X1_leastWithout_L8 (v1 : Int32) (p0_all_size : Int32) (p0_steps : Int32) (p0_turned : Int32) (p0_firstIn : Nat → Int32) (p0_nexts : Nat → Int32) (p0_otherIn : Nat → Int32) (post : Int32 → (Int32) → (Nat → Int32) → (Nat → Int32) → (Nat → Int32) → (Nat → Int32) → Prop) (K : (Int32) → (Int32) → (Nat → Int32) → (Nat → Int32) → Prop) : Nat → (Int32) → (Int32) → (Nat → Int32) → (Nat → Int32) → Prop
  | 0, _, _, _, _ => False
  | n + 1, v2, v3, p0_leads, p0_queue => w_X1_leastWithout_L8b v1 p0_all_size p0_steps p0_turned p0_firstIn p0_nexts p0_otherIn post K (w_X1_leastWithout_L8 v1 p0_all_size p0_steps p0_turned p0_firstIn p0_nexts p0_otherIn post K n) v2 v3 p0_leads p0_queue
def w_X1_leastWithout (p0_all_size : Int32) (p0_steps : Int32) (p0_turned : Int32) (p0_firstIn : Nat → Int32) (p0_leads : Nat → Int32) (p0_nexts : Nat → Int32) (p0_otherIn : Nat → Int32) (p0_queue : Nat → Int32) (a1 : Int32) (post : Int32 → (Int32) → (Nat → Int32) → (Nat → Int32) → (Nat → Int32) → (Nat → Int32) → Prop) : Prop :=
  w_X1_turnRound p0_all_size p0_steps p0_turned p0_firstIn p0_nexts p0_otherIn (fun y1 y2 y3 =>
  ∃ n : Nat, w_X1_leastWithout_L8 a1 p0_all_size p0_steps y1 y2 p0_nexts y3 post (fun v20 v21 s22 s23 =>
      w_X1_leastNotLeading p0_all_size p0_steps y2 s22 y3 s23 v20 (fun r24 y25 y26 =>
      (post r24 y1 y2 y25 y3 y26))) n (0 : Int32) (0 : Int32) p0_leads p0_queue)
set_option maxHeartbeats 4000000 in
set_option maxRecDepth 100000 in
theorem c_X1_leastWithout_L8 {p : Program} {l : Launch} {e : Env} {s : State} {m : MethodId} {args : Array Value} {below : List Frame} {meth : Method} {c : Code} {dC : Nat → ClassId} {dI : Nat → Nat → Nat} {A : Nat → Prop} {cI cJ cZ : ClassId} {h_p0 : Nat} {ad_p0 : Nat → Nat} {ad_p0_all : Nat → Nat} {p0_made : Int32} {p0_turned : Int32} {p0_steps : Int32} {p0_all_width : Int32} {p0_all_size : Int32} {p0_firstIn : Nat → Int32} {p0_nexts : Nat → Int32} {p0_otherIn : Nat → Int32} {v1 : Int32} {z_p0_leads : Nat → Int32} {z_p0_queue : Nat → Int32} {post : Int32 → (Int32) → (Nat → Int32) → (Nat → Int32) → (Nat → Int32) → (Nat → Int32) → Prop} {K : (Int32) → (Int32) → (Nat → Int32) → (Nat → Int32) → Prop} (E0 : xEnv p s m args meth c cX1_leastWithout (some .int) 4 RX1 wsX1_leastWithout (dC, dI) cI cJ cZ A) (hk : ∀ (v2 : Int32) (v3 : Int32) (p0_leads : Nat → Int32) (p0_queue : Nat → Int32) (H : Heap) (locs : List Loc) (ls : Array Slot), K v2 v3 p0_leads p0_queue → va_P (dC, dI) vwCl (wld_X1_leastWithout cI cJ cZ h_p0 ad_p0 ad_p0_all p0_made p0_turned p0_steps p0_all_width p0_all_size p0_firstIn p0_leads p0_nexts p0_otherIn p0_queue) H → va_D A (wld_X1_leastWithout cI cJ cZ h_p0 ad_p0 ad_p0_all p0_made p0_turned p0_steps p0_all_width p0_all_size p0_firstIn p0_leads p0_nexts p0_otherIn p0_queue) → va_S A s.heap H locs → lv_has ls 4 [(0, .ref h_p0), (2, .int v2)] → W p l e ({ frames := 2, cells := 0, slots := 0, locals := 49 }) s m args below meth c H locs 0 0 (MQ below (q_X1_leastWithout dC dI cI cJ cZ h_p0 ad_p0 ad_p0_all p0_made p0_turned p0_steps p0_all_width p0_all_size p0_firstIn z_p0_leads p0_nexts p0_otherIn z_p0_queue post A) args s 0 0 A) (F0 m 65 ls [])) : ∀ (n : Nat) (v2 : Int32) (v3 : Int32) (p0_leads : Nat → Int32) (p0_queue : Nat → Int32), w_X1_leastWithout_L8 v1 p0_all_size p0_steps p0_turned p0_firstIn p0_nexts p0_otherIn post K n v2 v3 p0_leads p0_queue → ∀ (H : Heap) (locs : List Loc) (ls : Array Slot), va_P (dC, dI) vwCl (wld_X1_leastWithout cI cJ cZ h_p0 ad_p0 ad_p0_all p0_made p0_turned p0_steps p0_all_width p0_all_size p0_firstIn p0_leads p0_nexts p0_otherIn p0_queue) H → va_D A (wld_X1_leastWithout cI cJ cZ h_p0 ad_p0 ad_p0_all p0_made p0_turned p0_steps p0_all_width p0_all_size p0_firstIn p0_leads p0_nexts p0_otherIn p0_queue) → va_S A s.heap H locs → lv_has ls 4 [(0, .ref h_p0), (1, .int v1), (2, .int v2), (3, .int v3)] → W p l e ({ frames := 2, cells := 0, slots := 0, locals := 49 }) s m args below meth c H locs 0 0 (MQ below (q_X1_leastWithout dC dI cI cJ cZ h_p0 ad_p0 ad_p0_all p0_made p0_turned p0_steps p0_all_width p0_all_size p0_firstIn z_p0_leads p0_nexts p0_otherIn z_p0_queue post A) args s 0 0 A) (F0 m 8 ls []) := by
  obtain ⟨hx, hb, hr, hml, hown, hts, hlocks, hK, hA, n1, n2⟩ := id E0
  have iX1 : ∀ w ∈ u_ws RX1 TX1 11, w ∈ wsX1_leastWithout := fun w h => List.mem_cons_of_mem _ (List.mem_append_left _ (List.mem_append_right _ h))
  have iX4 : ∀ w ∈ u_ws RX4 TX4 7, w ∈ wsX1_leastWithout := fun w h => List.mem_cons_of_mem _ (List.mem_append_right _ h)
  intro n
  induction n with
  | zero => intro v2 v3 p0_leads p0_queue hw; exact hw.elim
  | succ n ih =>
    intro v2 v3 p0_leads p0_queue hw H locs ls hP hD hS hl
    have hw : w_X1_leastWithout_L8b v1 p0_all_size p0_steps p0_turned p0_firstIn p0_nexts p0_otherIn post K (w_X1_leastWithout_L8 v1 p0_all_size p0_steps p0_turned p0_firstIn p0_nexts p0_otherIn post K n) v2 v3 p0_leads p0_queue := hw
    unfold w_X1_leastWithout_L8b at hw
    refine lv_iload_n hx hb dX1_leastWithout_8 rfl (lv_at hl 3 rfl) ?_
    refine lv_aload_n hx hb dX1_leastWithout_9 rfl (lv_at hl 0 rfl) ?_
    refine va_get (D := (dC, dI)) (ci := 1) (v := .ref (ad_p0 0)) (C := RX1) (T := TX1) (N := 11) hx hb hts iX1 hown hK hP 0 rfl rfl 0 (by decide) (hts (.fieldLink RX1 14 "NetHouse$Field" "all" "LNetHouse$Markings;") (by decide +kernel)) (fun _ h9 => h9) rfl dX1_leastWithout_10 ?_
    refine va_get (D := (dC, dI)) (ci := 4) (v := .int p0_all_size) (C := RX4) (T := TX4) (N := 7) hx hb hts iX4 hown hK hP 1 rfl rfl 6 (by decide) (hts (.fieldLink RX1 59 "NetHouse$Markings" "size" "I") (by decide +kernel)) (fun _ h9 => h9) rfl dX1_leastWithout_13 ?_
    refine lv_icmp_ge (tgt := 65) hx hb dX1_leastWithout_16 (by decide) (fun c4 => ?_) (fun c5 => ?_)
    · have hw := hw.1 c4
      exact hk _ _ _ _ _ _ _ hw hP hD hS (lv_sub hl [0, 2] rfl)
    · have hw := hw.2 c5
      refine lv_aload_n hx hb dX1_leastWithout_19 rfl (lv_at hl 0 rfl) ?_
      refine va_get (D := (dC, dI)) (ci := 1) (v := .ref (ad_p0 7)) (C := RX1) (T := TX1) (N := 11) hx hb hts iX1 hown hK hP 0 rfl rfl 7 (by decide) (hts (.fieldLink RX1 44 "NetHouse$Field" "leads" "[I") (by decide +kernel)) (fun _ h9 => h9) rfl dX1_leastWithout_20 ?_
      refine lv_iload_n hx hb dX1_leastWithout_23 rfl (lv_at hl 3 rfl) ?_
      refine lv_aload_n hx hb dX1_leastWithout_24 rfl (lv_at hl 0 rfl) ?_
      refine lv_iload_n hx hb dX1_leastWithout_25 rfl (lv_at hl 3 rfl) ?_
      refine lv_iload_n hx hb dX1_leastWithout_26 rfl (lv_at hl 1 rfl) ?_
      obtain ⟨hPc, hDc⟩ := x_sub (wc := (wld_X1_leadsFrom cI cJ cZ h_p0 ad_p0 p0_made p0_turned p0_steps p0_nexts)) hP hD [0, 4] (n := 7) rfl rfl (by decide +kernel)
      refine x_calli (ws' := fun (u : Unit) => (wld_X1_leastWithout cI cJ cZ h_p0 ad_p0 ad_p0_all p0_made p0_turned p0_steps p0_all_width p0_all_size p0_firstIn p0_leads p0_nexts p0_otherIn p0_queue)) hP hD hS hA [0, 4] [1, 2, 3, 5, 6] [5, 0, 1, 2, 6, 3, 4] (n := 7) (k := 2) rfl (fun _ => rfl) rfl (by decide +kernel) (fun _ => rfl) (va_runV (As := [.int v3, .int v1]) (rest := [.int v3, .ref (ad_p0 7)]) ⟨hx, hb, hml, hown, hts⟩ (c_X1_leadsFrom (l := l) (dC := dC) (dI := dI) (cI := cI) (cJ := cJ) (cZ := cZ) (sz := H.size) (h_p0 := h_p0) (ad_p0 := ad_p0) (p0_made := p0_made) (p0_turned := p0_turned) (p0_steps := p0_steps) (p0_nexts := p0_nexts) hw) (cwV 2 hts gX1_leastWithout_X1_leadsFrom rfl rfl rfl (by decide +kernel) ⟨Nat.le_of_ble_eq_true rfl, Nat.le_of_ble_eq_true rfl⟩) ⟨xPre_blind, va_recv hK hP (ci := 1) (q0 := 0) rfl rfl, xPre_at hK hPc hDc n1 n2⟩ rfl rfl hl.1 rfl (lv_room (Nat.le_of_ble_eq_true rfl)) dX1_leastWithout_27 ⟨Nat.zero_le _, Nat.zero_le _⟩) (fun r6 u H locs hw hP hD hS => ?_)
      try dsimp only at hw
      have hP : va_P (dC, dI) vwCl (wld_X1_leastWithout cI cJ cZ h_p0 ad_p0 ad_p0_all p0_made p0_turned p0_steps p0_all_width p0_all_size p0_firstIn p0_leads p0_nexts p0_otherIn p0_queue) H := hP
      have hD : va_D A (wld_X1_leastWithout cI cJ cZ h_p0 ad_p0 ad_p0_all p0_made p0_turned p0_steps p0_all_width p0_all_size p0_firstIn p0_leads p0_nexts p0_otherIn p0_queue) := hD
      refine lv_if_lt (tgt := 37) hx hb dX1_leastWithout_30 (by decide) (fun c7 => ?_) (fun c8 => ?_)
      · have hw := hw.1 c7
        refine lv_iconst (v := 0) hx hb dX1_leastWithout_37 (by decide) ?_
        refine va_iast hx hb hK hP hD hS 3 0 rfl rfl hw.1 dX1_leastWithout_38 (fun H locs hP hD hS => ?_)
        have hw := hw.2
        have hP : va_P (dC, dI) vwCl (wld_X1_leastWithout cI cJ cZ h_p0 ad_p0 ad_p0_all p0_made p0_turned p0_steps p0_all_width p0_all_size p0_firstIn (upd p0_leads v3.toNatClampNeg (0 : Int32)) p0_nexts p0_otherIn p0_queue) H := hP
        have hD : va_D A (wld_X1_leastWithout cI cJ cZ h_p0 ad_p0 ad_p0_all p0_made p0_turned p0_steps p0_all_width p0_all_size p0_firstIn (upd p0_leads v3.toNatClampNeg (0 : Int32)) p0_nexts p0_otherIn p0_queue) := hD
        refine lv_aload_n hx hb dX1_leastWithout_39 rfl (lv_at hl 0 rfl) ?_
        refine va_get (D := (dC, dI)) (ci := 1) (v := .ref (ad_p0 7)) (C := RX1) (T := TX1) (N := 11) hx hb hts iX1 hown hK hP 0 rfl rfl 7 (by decide) (hts (.fieldLink RX1 44 "NetHouse$Field" "leads" "[I") (by decide +kernel)) (fun _ h9 => h9) rfl dX1_leastWithout_40 ?_
        refine lv_iload_n hx hb dX1_leastWithout_43 rfl (lv_at hl 3 rfl) ?_
        refine va_iald hx hb hK hP 3 0 rfl rfl hw.1 dX1_leastWithout_44 ?_
        have hw := hw.2
        refine lv_iconst (v := 1) hx hb dX1_leastWithout_45 (by decide) ?_
        refine lv_icmp_ne (tgt := 59) hx hb dX1_leastWithout_46 (by decide) (fun c9 => ?_) (fun c10 => ?_)
        · have hw := hw.1 c9
          obtain ⟨x11, ex11⟩ : ∃ y : Int32, y = v3 + (1 : Int32) := ⟨_, rfl⟩
          have hw := hw x11 ex11
          refine lv_iinc (v := x11) (lv' := [(3, .int x11), (0, .ref h_p0), (1, .int v1), (2, .int v2)]) hx hb dX1_leastWithout_59 hl (k := 3) rfl (by rw [ex11]; rfl) (by decide) rfl (fun ls hl => ?_)
          refine lv_goto (tgt := 8) hx hb dX1_leastWithout_62 (by decide) ?_
          exact ih _ _ _ _ hw _ _ _ hP hD hS (lv_sub hl [1, 2, 3, 0] rfl)
        · have hw := hw.2 c10
          refine lv_aload_n hx hb dX1_leastWithout_49 rfl (lv_at hl 0 rfl) ?_
          refine va_get (D := (dC, dI)) (ci := 1) (v := .ref (ad_p0 6)) (C := RX1) (T := TX1) (N := 11) hx hb hts iX1 hown hK hP 0 rfl rfl 6 (by decide) (hts (.fieldLink RX1 41 "NetHouse$Field" "queue" "[I") (by decide +kernel)) (fun _ h9 => h9) rfl dX1_leastWithout_50 ?_
          refine lv_iload_n hx hb dX1_leastWithout_53 rfl (lv_at hl 2 rfl) ?_
          refine lv_iload_n hx hb dX1_leastWithout_54 rfl (lv_at hl 3 rfl) ?_
          refine va_iast hx hb hK hP hD hS 6 0 rfl rfl hw.1 dX1_leastWithout_55 (fun H locs hP hD hS => ?_)
          have hw := hw.2
          have hP : va_P (dC, dI) vwCl (wld_X1_leastWithout cI cJ cZ h_p0 ad_p0 ad_p0_all p0_made p0_turned p0_steps p0_all_width p0_all_size p0_firstIn (upd p0_leads v3.toNatClampNeg (0 : Int32)) p0_nexts p0_otherIn (upd p0_queue v2.toNatClampNeg v3)) H := hP
          have hD : va_D A (wld_X1_leastWithout cI cJ cZ h_p0 ad_p0 ad_p0_all p0_made p0_turned p0_steps p0_all_width p0_all_size p0_firstIn (upd p0_leads v3.toNatClampNeg (0 : Int32)) p0_nexts p0_otherIn (upd p0_queue v2.toNatClampNeg v3)) := hD
          obtain ⟨x12, ex12⟩ : ∃ y : Int32, y = v2 + (1 : Int32) := ⟨_, rfl⟩
          have hw := hw x12 ex12
          refine lv_iinc (v := x12) (lv' := [(2, .int x12), (0, .ref h_p0), (1, .int v1), (3, .int v3)]) hx hb dX1_leastWithout_56 hl (k := 2) rfl (by rw [ex12]; rfl) (by decide) rfl (fun ls hl => ?_)
          obtain ⟨x13, ex13⟩ : ∃ y : Int32, y = v3 + (1 : Int32) := ⟨_, rfl⟩
          have hw := hw x13 ex13
          refine lv_iinc (v := x13) (lv' := [(3, .int x13), (2, .int x12), (0, .ref h_p0), (1, .int v1)]) hx hb dX1_leastWithout_59 hl (k := 3) rfl (by rw [ex13]; rfl) (by decide) rfl (fun ls hl => ?_)
          refine lv_goto (tgt := 8) hx hb dX1_leastWithout_62 (by decide) ?_
          exact ih _ _ _ _ hw _ _ _ hP hD hS (lv_sub hl [2, 3, 1, 0] rfl)
      · have hw := hw.2 c8
        refine lv_iconst (v := 1) hx hb dX1_leastWithout_33 (by decide) ?_
        refine lv_goto (tgt := 38) hx hb dX1_leastWithout_34 (by decide) ?_
        refine va_iast hx hb hK hP hD hS 3 0 rfl rfl hw.1 dX1_leastWithout_38 (fun H locs hP hD hS => ?_)
        have hw := hw.2
        have hP : va_P (dC, dI) vwCl (wld_X1_leastWithout cI cJ cZ h_p0 ad_p0 ad_p0_all p0_made p0_turned p0_steps p0_all_width p0_all_size p0_firstIn (upd p0_leads v3.toNatClampNeg (1 : Int32)) p0_nexts p0_otherIn p0_queue) H := hP
        have hD : va_D A (wld_X1_leastWithout cI cJ cZ h_p0 ad_p0 ad_p0_all p0_made p0_turned p0_steps p0_all_width p0_all_size p0_firstIn (upd p0_leads v3.toNatClampNeg (1 : Int32)) p0_nexts p0_otherIn p0_queue) := hD
        refine lv_aload_n hx hb dX1_leastWithout_39 rfl (lv_at hl 0 rfl) ?_
        refine va_get (D := (dC, dI)) (ci := 1) (v := .ref (ad_p0 7)) (C := RX1) (T := TX1) (N := 11) hx hb hts iX1 hown hK hP 0 rfl rfl 7 (by decide) (hts (.fieldLink RX1 44 "NetHouse$Field" "leads" "[I") (by decide +kernel)) (fun _ h9 => h9) rfl dX1_leastWithout_40 ?_
        refine lv_iload_n hx hb dX1_leastWithout_43 rfl (lv_at hl 3 rfl) ?_
        refine va_iald hx hb hK hP 3 0 rfl rfl hw.1 dX1_leastWithout_44 ?_
        have hw := hw.2
        refine lv_iconst (v := 1) hx hb dX1_leastWithout_45 (by decide) ?_
        refine lv_icmp_ne (tgt := 59) hx hb dX1_leastWithout_46 (by decide) (fun c14 => ?_) (fun c15 => ?_)
        · have hw := hw.1 c14
          obtain ⟨x16, ex16⟩ : ∃ y : Int32, y = v3 + (1 : Int32) := ⟨_, rfl⟩
          have hw := hw x16 ex16
          refine lv_iinc (v := x16) (lv' := [(3, .int x16), (0, .ref h_p0), (1, .int v1), (2, .int v2)]) hx hb dX1_leastWithout_59 hl (k := 3) rfl (by rw [ex16]; rfl) (by decide) rfl (fun ls hl => ?_)
          refine lv_goto (tgt := 8) hx hb dX1_leastWithout_62 (by decide) ?_
          exact ih _ _ _ _ hw _ _ _ hP hD hS (lv_sub hl [1, 2, 3, 0] rfl)
        · have hw := hw.2 c15
          refine lv_aload_n hx hb dX1_leastWithout_49 rfl (lv_at hl 0 rfl) ?_
          refine va_get (D := (dC, dI)) (ci := 1) (v := .ref (ad_p0 6)) (C := RX1) (T := TX1) (N := 11) hx hb hts iX1 hown hK hP 0 rfl rfl 6 (by decide) (hts (.fieldLink RX1 41 "NetHouse$Field" "queue" "[I") (by decide +kernel)) (fun _ h9 => h9) rfl dX1_leastWithout_50 ?_
          refine lv_iload_n hx hb dX1_leastWithout_53 rfl (lv_at hl 2 rfl) ?_
          refine lv_iload_n hx hb dX1_leastWithout_54 rfl (lv_at hl 3 rfl) ?_
          refine va_iast hx hb hK hP hD hS 6 0 rfl rfl hw.1 dX1_leastWithout_55 (fun H locs hP hD hS => ?_)
          have hw := hw.2
          have hP : va_P (dC, dI) vwCl (wld_X1_leastWithout cI cJ cZ h_p0 ad_p0 ad_p0_all p0_made p0_turned p0_steps p0_all_width p0_all_size p0_firstIn (upd p0_leads v3.toNatClampNeg (1 : Int32)) p0_nexts p0_otherIn (upd p0_queue v2.toNatClampNeg v3)) H := hP
          have hD : va_D A (wld_X1_leastWithout cI cJ cZ h_p0 ad_p0 ad_p0_all p0_made p0_turned p0_steps p0_all_width p0_all_size p0_firstIn (upd p0_leads v3.toNatClampNeg (1 : Int32)) p0_nexts p0_otherIn (upd p0_queue v2.toNatClampNeg v3)) := hD
          obtain ⟨x17, ex17⟩ : ∃ y : Int32, y = v2 + (1 : Int32) := ⟨_, rfl⟩
          have hw := hw x17 ex17
          refine lv_iinc (v := x17) (lv' := [(2, .int x17), (0, .ref h_p0), (1, .int v1), (3, .int v3)]) hx hb dX1_leastWithout_56 hl (k := 2) rfl (by rw [ex17]; rfl) (by decide) rfl (fun ls hl => ?_)
          obtain ⟨x18, ex18⟩ : ∃ y : Int32, y = v3 + (1 : Int32) := ⟨_, rfl⟩
          have hw := hw x18 ex18
          refine lv_iinc (v := x18) (lv' := [(3, .int x18), (2, .int x17), (0, .ref h_p0), (1, .int v1)]) hx hb dX1_leastWithout_59 hl (k := 3) rfl (by rw [ex18]; rfl) (by decide) rfl (fun ls hl => ?_)
          refine lv_goto (tgt := 8) hx hb dX1_leastWithout_62 (by decide) ?_
          exact ih _ _ _ _ hw _ _ _ hP hD hS (lv_sub hl [2, 3, 1, 0] rfl)
set_option maxHeartbeats 4000000 in
set_option maxRecDepth 100000 in
theorem c_X1_leastWithout {l : Launch} {dC : Nat → ClassId} {dI : Nat → Nat → Nat} {sz : Nat} {cI cJ cZ : ClassId} {h_p0 : Nat} {ad_p0 : Nat → Nat} {ad_p0_all : Nat → Nat} {p0_made : Int32} {p0_turned : Int32} {p0_steps : Int32} {p0_all_width : Int32} {p0_all_size : Int32} {p0_firstIn : Nat → Int32} {p0_leads : Nat → Int32} {p0_nexts : Nat → Int32} {p0_otherIn : Nat → Int32} {p0_queue : Nat → Int32} {a1 : Int32} {post : Int32 → (Int32) → (Nat → Int32) → (Nat → Int32) → (Nat → Int32) → (Nat → Int32) → Prop} (hw : w_X1_leastWithout p0_all_size p0_steps p0_turned p0_firstIn p0_leads p0_nexts p0_otherIn p0_queue a1 post) : Met l yX1_leastWithout wsX1_leastWithout ({ frames := 2, cells := 0, slots := 0, locals := 49 }) (va_Pc [.ref h_p0, .int a1] (xPre (dC, dI) cI cJ cZ (wld_X1_leastWithout cI cJ cZ h_p0 ad_p0 ad_p0_all p0_made p0_turned p0_steps p0_all_width p0_all_size p0_firstIn p0_leads p0_nexts p0_otherIn p0_queue) sz)) (q_X1_leastWithout dC dI cI cJ cZ h_p0 ad_p0 ad_p0_all p0_made p0_turned p0_steps p0_all_width p0_all_size p0_firstIn p0_leads p0_nexts p0_otherIn p0_queue post (va_A (wld_X1_leastWithout cI cJ cZ h_p0 ad_p0 ad_p0_all p0_made p0_turned p0_steps p0_all_width p0_all_size p0_firstIn p0_leads p0_nexts p0_otherIn p0_queue) sz)) 0 0 (va_A (wld_X1_leastWithout cI cJ cZ h_p0 ad_p0 ad_p0_all p0_made p0_turned p0_steps p0_all_width p0_all_size p0_firstIn p0_leads p0_nexts p0_otherIn p0_queue) sz) := by
  refine x_met (cc := cX1_leastWithout) (maxL := 4) (ret := (some .int)) (own := RX1) (Qc := fun A => (q_X1_leastWithout dC dI cI cJ cZ h_p0 ad_p0 ad_p0_all p0_made p0_turned p0_steps p0_all_width p0_all_size p0_firstIn p0_leads p0_nexts p0_otherIn p0_queue post A)) (by decide) rfl rfl (Nat.le_of_ble_eq_true rfl) ?_
  intro p e s m args below meth c A ls E0 hP hD hS hl
  obtain ⟨hx, hb, hr, hml, hown, hts, hlocks, hK, hA, n1, n2⟩ := id E0
  have iX1 : ∀ w ∈ u_ws RX1 TX1 11, w ∈ wsX1_leastWithout := fun w h => List.mem_cons_of_mem _ (List.mem_append_left _ (List.mem_append_right _ h))
  have iX4 : ∀ w ∈ u_ws RX4 TX4 7, w ∈ wsX1_leastWithout := fun w h => List.mem_cons_of_mem _ (List.mem_append_right _ h)
  have hS0 := hS
  have hl : lv_has ls 4 [(0, .ref h_p0), (1, .int a1)] := hl
  unfold w_X1_leastWithout at hw
  obtain ⟨H, hH⟩ : ∃ H, H = s.heap := ⟨_, rfl⟩
  have hS : va_S A s.heap H [] := by rw [hH]; exact hS
  have hP : va_P (dC, dI) vwCl (wld_X1_leastWithout cI cJ cZ h_p0 ad_p0 ad_p0_all p0_made p0_turned p0_steps p0_all_width p0_all_size p0_firstIn p0_leads p0_nexts p0_otherIn p0_queue) H := by rw [hH]; exact hP
  suffices hG : W p l e ({ frames := 2, cells := 0, slots := 0, locals := 49 }) s m args below meth c H [] 0 0 (MQ below (q_X1_leastWithout dC dI cI cJ cZ h_p0 ad_p0 ad_p0_all p0_made p0_turned p0_steps p0_all_width p0_all_size p0_firstIn p0_leads p0_nexts p0_otherIn p0_queue post A) args s 0 0 A) (F0 m 0 ls []) by rw [hH] at hG; exact hG
  clear hH
  refine lv_aload_n hx hb dX1_leastWithout_0 rfl (lv_at hl 0 rfl) ?_
  obtain ⟨hPc, hDc⟩ := x_sub (wc := (wld_X1_turnRound cI cJ cZ h_p0 ad_p0 ad_p0_all p0_made p0_turned p0_steps p0_all_width p0_all_size p0_firstIn p0_nexts p0_otherIn)) hP hD [0, 1, 2, 4, 5] (n := 7) rfl rfl (by decide +kernel)
  refine x_callv (ws' := fun (u : (Int32) × (Nat → Int32) × (Nat → Int32)) => (wld_X1_leastWithout cI cJ cZ h_p0 ad_p0 ad_p0_all p0_made (u.1) p0_steps p0_all_width p0_all_size (u.2.1) p0_leads p0_nexts (u.2.2) p0_queue)) hP hD hS hA [0, 1, 2, 4, 5] [3, 6] [2, 3, 4, 0, 5, 6, 1] (n := 7) (k := 5) rfl (fun _ => rfl) rfl (by decide +kernel) (fun _ => rfl) (va_runV (As := []) (rest := []) ⟨hx, hb, hml, hown, hts⟩ (c_X1_turnRound (l := l) (dC := dC) (dI := dI) (cI := cI) (cJ := cJ) (cZ := cZ) (sz := H.size) (h_p0 := h_p0) (ad_p0 := ad_p0) (ad_p0_all := ad_p0_all) (p0_made := p0_made) (p0_turned := p0_turned) (p0_steps := p0_steps) (p0_all_width := p0_all_width) (p0_all_size := p0_all_size) (p0_firstIn := p0_firstIn) (p0_nexts := p0_nexts) (p0_otherIn := p0_otherIn) hw) (cwV 0 hts gX1_leastWithout_X1_turnRound rfl rfl rfl (by decide +kernel) ⟨Nat.le_of_ble_eq_true rfl, Nat.le_of_ble_eq_true rfl⟩) ⟨xPre_blind, va_recv hK hP (ci := 1) (q0 := 0) rfl rfl, xPre_at hK hPc hDc n1 n2⟩ rfl rfl hl.1 rfl (lv_room (Nat.le_of_ble_eq_true rfl)) dX1_leastWithout_1 ⟨Nat.zero_le _, Nat.zero_le _⟩) (fun u H locs hw hP hD hS => ?_)
  obtain ⟨y1, y2, y3⟩ := u
  try dsimp only at hw
  have hP : va_P (dC, dI) vwCl (wld_X1_leastWithout cI cJ cZ h_p0 ad_p0 ad_p0_all p0_made y1 p0_steps p0_all_width p0_all_size y2 p0_leads p0_nexts y3 p0_queue) H := hP
  have hD : va_D A (wld_X1_leastWithout cI cJ cZ h_p0 ad_p0 ad_p0_all p0_made y1 p0_steps p0_all_width p0_all_size y2 p0_leads p0_nexts y3 p0_queue) := hD
  refine lv_iconst (v := 0) hx hb dX1_leastWithout_4 (by decide) ?_
  refine lv_istore_n (lv' := [(2, .int (0 : Int32)), (0, .ref h_p0), (1, .int a1)]) hx hb dX1_leastWithout_5 rfl hl (by decide) rfl (fun ls hl => ?_)
  refine lv_iconst (v := 0) hx hb dX1_leastWithout_6 (by decide) ?_
  refine lv_istore_n (lv' := [(3, .int (0 : Int32)), (2, .int (0 : Int32)), (0, .ref h_p0), (1, .int a1)]) hx hb dX1_leastWithout_7 rfl hl (by decide) rfl (fun ls hl => ?_)
  obtain ⟨n19, hw⟩ := hw
  refine c_X1_leastWithout_L8 (l := l) (z_p0_leads := p0_leads) (z_p0_queue := p0_queue) E0 ?_ n19 _ _ _ _ hw _ _ _ hP hD hS (lv_sub hl [2, 3, 1, 0] rfl)
  · intro v20 v21 s22 s23 H locs ls hw hP hD hS hl
    have hP : va_P (dC, dI) vwCl (wld_X1_leastWithout cI cJ cZ h_p0 ad_p0 ad_p0_all p0_made y1 p0_steps p0_all_width p0_all_size y2 s22 p0_nexts y3 s23) H := hP
    have hD : va_D A (wld_X1_leastWithout cI cJ cZ h_p0 ad_p0 ad_p0_all p0_made y1 p0_steps p0_all_width p0_all_size y2 s22 p0_nexts y3 s23) := hD
    refine lv_aload_n hx hb dX1_leastWithout_65 rfl (lv_at hl 0 rfl) ?_
    refine lv_iload_n hx hb dX1_leastWithout_66 rfl (lv_at hl 1 rfl) ?_
    obtain ⟨hPc, hDc⟩ := x_sub (wc := (wld_X1_leastNotLeading cI cJ cZ h_p0 ad_p0 ad_p0_all p0_made y1 p0_steps p0_all_width p0_all_size y2 s22 y3 s23)) hP hD [0, 1, 2, 3, 5, 6] (n := 7) rfl rfl (by decide +kernel)
    refine x_calli (ws' := fun (u : (Nat → Int32) × (Nat → Int32)) => (wld_X1_leastWithout cI cJ cZ h_p0 ad_p0 ad_p0_all p0_made y1 p0_steps p0_all_width p0_all_size y2 (u.1) p0_nexts y3 (u.2))) hP hD hS hA [0, 1, 2, 3, 5, 6] [4] [1, 2, 3, 4, 0, 5, 6] (n := 7) (k := 6) rfl (fun _ => rfl) rfl (by decide +kernel) (fun _ => rfl) (va_runV (As := [.int v20]) (rest := []) ⟨hx, hb, hml, hown, hts⟩ (c_X1_leastNotLeading (l := l) (dC := dC) (dI := dI) (cI := cI) (cJ := cJ) (cZ := cZ) (sz := H.size) (h_p0 := h_p0) (ad_p0 := ad_p0) (ad_p0_all := ad_p0_all) (p0_made := p0_made) (p0_turned := y1) (p0_steps := p0_steps) (p0_all_width := p0_all_width) (p0_all_size := p0_all_size) (p0_firstIn := y2) (p0_leads := s22) (p0_otherIn := y3) (p0_queue := s23) hw) (cwV 1 hts gX1_leastWithout_X1_leastNotLeading rfl rfl rfl (by decide +kernel) ⟨Nat.le_of_ble_eq_true rfl, Nat.le_of_ble_eq_true rfl⟩) ⟨xPre_blind, va_recv hK hP (ci := 1) (q0 := 0) rfl rfl, xPre_at hK hPc hDc n1 n2⟩ rfl rfl hl.1 rfl (lv_room (Nat.le_of_ble_eq_true rfl)) dX1_leastWithout_67 ⟨Nat.zero_le _, Nat.zero_le _⟩) (fun r24 u H locs hw hP hD hS => ?_)
    obtain ⟨y25, y26⟩ := u
    try dsimp only at hw
    have hP : va_P (dC, dI) vwCl (wld_X1_leastWithout cI cJ cZ h_p0 ad_p0 ad_p0_all p0_made y1 p0_steps p0_all_width p0_all_size y2 y25 p0_nexts y3 y26) H := hP
    have hD : va_D A (wld_X1_leastWithout cI cJ cZ h_p0 ad_p0 ad_p0_all p0_made y1 p0_steps p0_all_width p0_all_size y2 y25 p0_nexts y3 y26) := hD
    exact x_iret (w1 := fun (u : (Int32) × (Nat → Int32) × (Nat → Int32) × (Nat → Int32) × (Nat → Int32)) => (wld_X1_leastWithout cI cJ cZ h_p0 ad_p0 ad_p0_all p0_made (u.1) p0_steps p0_all_width p0_all_size (u.2.1) (u.2.2.1) p0_nexts (u.2.2.2.1) (u.2.2.2.2))) hx hb hr hlocks (y1, y2, y25, y3, y26) hw hP hD hS dX1_leastWithout_70
abbrev wld_X1_leastAstray (cI cJ cZ : ClassId) (h_p0 : Nat) (ad_p0 : Nat → Nat) (ad_p0_all : Nat → Nat) (p0_made : Int32) (p0_turned : Int32) (p0_steps : Int32) (p0_all_width : Int32) (p0_all_size : Int32) (p0_firstIn : Nat → Int32) (p0_leads : Nat → Int32) (p0_nexts : Nat → Int32) (p0_otherIn : Nat → Int32) (p0_queue : Nat → Int32) : va_W := [(h_p0, .inr (1, [.ref (ad_p0 0), .ref (ad_p0 1), .ref (ad_p0 2), .ref (ad_p0 3), .ref (ad_p0 4), .ref (ad_p0 5), .ref (ad_p0 6), .ref (ad_p0 7), .int p0_made, .int p0_turned, .int p0_steps])), ((ad_p0 0), .inr (4, [.ref (ad_p0_all 0), .ref (ad_p0_all 1), .ref (ad_p0_all 2), .ref (ad_p0_all 3), .ref (ad_p0_all 4), .int p0_all_width, .int p0_all_size])), ((ad_p0 4), .inl (cI, 8000, .inl p0_firstIn)), ((ad_p0 7), .inl (cI, 8000, .inl p0_leads)), ((ad_p0 3), .inl (cI, 128000, .inl p0_nexts)), ((ad_p0 5), .inl (cI, 128000, .inl p0_otherIn)), ((ad_p0 6), .inl (cI, 8000, .inl p0_queue))]
abbrev q_X1_leastAstray (dC : Nat → ClassId) (dI : Nat → Nat → Nat) (cI cJ cZ : ClassId) (h_p0 : Nat) (ad_p0 : Nat → Nat) (ad_p0_all : Nat → Nat) (p0_made : Int32) (p0_turned : Int32) (p0_steps : Int32) (p0_all_width : Int32) (p0_all_size : Int32) (p0_firstIn : Nat → Int32) (p0_leads : Nat → Int32) (p0_nexts : Nat → Int32) (p0_otherIn : Nat → Int32) (p0_queue : Nat → Int32) (post : Int32 → (Int32) → (Nat → Int32) → (Nat → Int32) → (Nat → Int32) → (Nat → Int32) → Prop) (A : Nat → Prop) : Array Value → State → Outcome → State → Prop := va_Qi (fun r (u : (Int32) × (Nat → Int32) × (Nat → Int32) × (Nat → Int32) × (Nat → Int32)) => post r (u.1) (u.2.1) (u.2.2.1) (u.2.2.2.1) (u.2.2.2.2)) (fun (u : (Int32) × (Nat → Int32) × (Nat → Int32) × (Nat → Int32) × (Nat → Int32)) t => xPost (dC, dI) A (wld_X1_leastAstray cI cJ cZ h_p0 ad_p0 ad_p0_all p0_made (u.1) p0_steps p0_all_width p0_all_size (u.2.1) (u.2.2.1) p0_nexts (u.2.2.2.1) (u.2.2.2.2)) t) A
def w_X1_leastAstray_L6b (v1 : Int32) (p0_all_size : Int32) (p0_steps : Int32) (p0_turned : Int32) (p0_firstIn : Nat → Int32) (p0_nexts : Nat → Int32) (p0_otherIn : Nat → Int32) (p0_queue : Nat → Int32) (post : Int32 → (Int32) → (Nat → Int32) → (Nat → Int32) → (Nat → Int32) → (Nat → Int32) → Prop) (K : (Int32) → (Nat → Int32) → Prop) (rec : (Int32) → (Nat → Int32) → Prop) (v2 : Int32) (p0_leads : Nat → Int32) : Prop :=
    (p0_all_size ≤ v2 →
      K v2 p0_leads) ∧
    (¬ p0_all_size ≤ v2 →
      vp_in v2 8000 ∧
      ∀ x6 : Int32, x6 = v2 + (1 : Int32) →
      rec x6 (upd p0_leads v2.toNatClampNeg (0 : Int32)))
def w_X1_leastAstray_L6 (v1 : Int32) (p0_all_size : Int32) (p0_steps : Int32) (p0_turned : Int32) (p0_firstIn : Nat → Int32) (p0_nexts : Nat → Int32) (p0_otherIn : Nat → Int32) (p0_queue : Nat → Int32) (post : Int32 → (Int32) → (Nat → Int32) → (Nat → Int32) → (Nat → Int32) → (Nat → Int32) → Prop) (K : (Int32) → (Nat → Int32) → Prop) : Nat → (Int32) → (Nat → Int32) → Prop
  | 0, _, _ => False
  | n + 1, v2, p0_leads => w_X1_leastAstray_L6b v1 p0_all_size p0_steps p0_turned p0_firstIn p0_nexts p0_otherIn p0_queue post K (w_X1_leastAstray_L6 v1 p0_all_size p0_steps p0_turned p0_firstIn p0_nexts p0_otherIn p0_queue post K n) v2 p0_leads
def w_X1_leastAstray (p0_all_size : Int32) (p0_steps : Int32) (p0_turned : Int32) (p0_firstIn : Nat → Int32) (p0_leads : Nat → Int32) (p0_nexts : Nat → Int32) (p0_otherIn : Nat → Int32) (p0_queue : Nat → Int32) (a1 : Int32) (post : Int32 → (Int32) → (Nat → Int32) → (Nat → Int32) → (Nat → Int32) → (Nat → Int32) → Prop) : Prop :=
  w_X1_turnRound p0_all_size p0_steps p0_turned p0_firstIn p0_nexts p0_otherIn (fun y1 y2 y3 =>
  ∃ n : Nat, w_X1_leastAstray_L6 a1 p0_all_size p0_steps y1 y2 p0_nexts y3 p0_queue post (fun v8 s9 =>
      vp_in a1 8000 ∧
      vp_in (0 : Int32) 8000 ∧
      w_X1_leastNotLeading p0_all_size p0_steps y2 (upd s9 a1.toNatClampNeg (1 : Int32)) y3 (upd p0_queue (0 : Int32).toNatClampNeg a1) (1 : Int32) (fun r10 y11 y12 =>
      (post r10 y1 y2 y11 y3 y12))) n (0 : Int32) p0_leads)
set_option maxHeartbeats 4000000 in
set_option maxRecDepth 100000 in
theorem c_X1_leastAstray_L6 {p : Program} {l : Launch} {e : Env} {s : State} {m : MethodId} {args : Array Value} {below : List Frame} {meth : Method} {c : Code} {dC : Nat → ClassId} {dI : Nat → Nat → Nat} {A : Nat → Prop} {cI cJ cZ : ClassId} {h_p0 : Nat} {ad_p0 : Nat → Nat} {ad_p0_all : Nat → Nat} {p0_made : Int32} {p0_turned : Int32} {p0_steps : Int32} {p0_all_width : Int32} {p0_all_size : Int32} {p0_firstIn : Nat → Int32} {p0_nexts : Nat → Int32} {p0_otherIn : Nat → Int32} {p0_queue : Nat → Int32} {v1 : Int32} {z_p0_leads : Nat → Int32} {post : Int32 → (Int32) → (Nat → Int32) → (Nat → Int32) → (Nat → Int32) → (Nat → Int32) → Prop} {K : (Int32) → (Nat → Int32) → Prop} (E0 : xEnv p s m args meth c cX1_leastAstray (some .int) 3 RX1 wsX1_leastAstray (dC, dI) cI cJ cZ A) (hk : ∀ (v2 : Int32) (p0_leads : Nat → Int32) (H : Heap) (locs : List Loc) (ls : Array Slot), K v2 p0_leads → va_P (dC, dI) vwCl (wld_X1_leastAstray cI cJ cZ h_p0 ad_p0 ad_p0_all p0_made p0_turned p0_steps p0_all_width p0_all_size p0_firstIn p0_leads p0_nexts p0_otherIn p0_queue) H → va_D A (wld_X1_leastAstray cI cJ cZ h_p0 ad_p0 ad_p0_all p0_made p0_turned p0_steps p0_all_width p0_all_size p0_firstIn p0_leads p0_nexts p0_otherIn p0_queue) → va_S A s.heap H locs → lv_has ls 3 [(0, .ref h_p0), (1, .int v1)] → W p l e ({ frames := 2, cells := 0, slots := 0, locals := 49 }) s m args below meth c H locs 0 0 (MQ below (q_X1_leastAstray dC dI cI cJ cZ h_p0 ad_p0 ad_p0_all p0_made p0_turned p0_steps p0_all_width p0_all_size p0_firstIn z_p0_leads p0_nexts p0_otherIn p0_queue post A) args s 0 0 A) (F0 m 30 ls [])) : ∀ (n : Nat) (v2 : Int32) (p0_leads : Nat → Int32), w_X1_leastAstray_L6 v1 p0_all_size p0_steps p0_turned p0_firstIn p0_nexts p0_otherIn p0_queue post K n v2 p0_leads → ∀ (H : Heap) (locs : List Loc) (ls : Array Slot), va_P (dC, dI) vwCl (wld_X1_leastAstray cI cJ cZ h_p0 ad_p0 ad_p0_all p0_made p0_turned p0_steps p0_all_width p0_all_size p0_firstIn p0_leads p0_nexts p0_otherIn p0_queue) H → va_D A (wld_X1_leastAstray cI cJ cZ h_p0 ad_p0 ad_p0_all p0_made p0_turned p0_steps p0_all_width p0_all_size p0_firstIn p0_leads p0_nexts p0_otherIn p0_queue) → va_S A s.heap H locs → lv_has ls 3 [(0, .ref h_p0), (1, .int v1), (2, .int v2)] → W p l e ({ frames := 2, cells := 0, slots := 0, locals := 49 }) s m args below meth c H locs 0 0 (MQ below (q_X1_leastAstray dC dI cI cJ cZ h_p0 ad_p0 ad_p0_all p0_made p0_turned p0_steps p0_all_width p0_all_size p0_firstIn z_p0_leads p0_nexts p0_otherIn p0_queue post A) args s 0 0 A) (F0 m 6 ls []) := by
  obtain ⟨hx, hb, hr, hml, hown, hts, hlocks, hK, hA, n1, n2⟩ := id E0
  have iX1 : ∀ w ∈ u_ws RX1 TX1 11, w ∈ wsX1_leastAstray := fun w h => List.mem_cons_of_mem _ (List.mem_append_left _ (List.mem_append_right _ h))
  have iX4 : ∀ w ∈ u_ws RX4 TX4 7, w ∈ wsX1_leastAstray := fun w h => List.mem_cons_of_mem _ (List.mem_append_right _ h)
  intro n
  induction n with
  | zero => intro v2 p0_leads hw; exact hw.elim
  | succ n ih =>
    intro v2 p0_leads hw H locs ls hP hD hS hl
    have hw : w_X1_leastAstray_L6b v1 p0_all_size p0_steps p0_turned p0_firstIn p0_nexts p0_otherIn p0_queue post K (w_X1_leastAstray_L6 v1 p0_all_size p0_steps p0_turned p0_firstIn p0_nexts p0_otherIn p0_queue post K n) v2 p0_leads := hw
    unfold w_X1_leastAstray_L6b at hw
    refine lv_iload_n hx hb dX1_leastAstray_6 rfl (lv_at hl 2 rfl) ?_
    refine lv_aload_n hx hb dX1_leastAstray_7 rfl (lv_at hl 0 rfl) ?_
    refine va_get (D := (dC, dI)) (ci := 1) (v := .ref (ad_p0 0)) (C := RX1) (T := TX1) (N := 11) hx hb hts iX1 hown hK hP 0 rfl rfl 0 (by decide) (hts (.fieldLink RX1 14 "NetHouse$Field" "all" "LNetHouse$Markings;") (by decide +kernel)) (fun _ h9 => h9) rfl dX1_leastAstray_8 ?_
    refine va_get (D := (dC, dI)) (ci := 4) (v := .int p0_all_size) (C := RX4) (T := TX4) (N := 7) hx hb hts iX4 hown hK hP 1 rfl rfl 6 (by decide) (hts (.fieldLink RX1 59 "NetHouse$Markings" "size" "I") (by decide +kernel)) (fun _ h9 => h9) rfl dX1_leastAstray_11 ?_
    refine lv_icmp_ge (tgt := 30) hx hb dX1_leastAstray_14 (by decide) (fun c4 => ?_) (fun c5 => ?_)
    · have hw := hw.1 c4
      exact hk _ _ _ _ _ hw hP hD hS (lv_sub hl [0, 1] rfl)
    · have hw := hw.2 c5
      refine lv_aload_n hx hb dX1_leastAstray_17 rfl (lv_at hl 0 rfl) ?_
      refine va_get (D := (dC, dI)) (ci := 1) (v := .ref (ad_p0 7)) (C := RX1) (T := TX1) (N := 11) hx hb hts iX1 hown hK hP 0 rfl rfl 7 (by decide) (hts (.fieldLink RX1 44 "NetHouse$Field" "leads" "[I") (by decide +kernel)) (fun _ h9 => h9) rfl dX1_leastAstray_18 ?_
      refine lv_iload_n hx hb dX1_leastAstray_21 rfl (lv_at hl 2 rfl) ?_
      refine lv_iconst (v := 0) hx hb dX1_leastAstray_22 (by decide) ?_
      refine va_iast hx hb hK hP hD hS 3 0 rfl rfl hw.1 dX1_leastAstray_23 (fun H locs hP hD hS => ?_)
      have hw := hw.2
      have hP : va_P (dC, dI) vwCl (wld_X1_leastAstray cI cJ cZ h_p0 ad_p0 ad_p0_all p0_made p0_turned p0_steps p0_all_width p0_all_size p0_firstIn (upd p0_leads v2.toNatClampNeg (0 : Int32)) p0_nexts p0_otherIn p0_queue) H := hP
      have hD : va_D A (wld_X1_leastAstray cI cJ cZ h_p0 ad_p0 ad_p0_all p0_made p0_turned p0_steps p0_all_width p0_all_size p0_firstIn (upd p0_leads v2.toNatClampNeg (0 : Int32)) p0_nexts p0_otherIn p0_queue) := hD
      obtain ⟨x6, ex6⟩ : ∃ y : Int32, y = v2 + (1 : Int32) := ⟨_, rfl⟩
      have hw := hw x6 ex6
      refine lv_iinc (v := x6) (lv' := [(2, .int x6), (0, .ref h_p0), (1, .int v1)]) hx hb dX1_leastAstray_24 hl (k := 2) rfl (by rw [ex6]; rfl) (by decide) rfl (fun ls hl => ?_)
      refine lv_goto (tgt := 6) hx hb dX1_leastAstray_27 (by decide) ?_
      exact ih _ _ hw _ _ _ hP hD hS (lv_sub hl [1, 2, 0] rfl)
set_option maxHeartbeats 4000000 in
set_option maxRecDepth 100000 in
theorem c_X1_leastAstray {l : Launch} {dC : Nat → ClassId} {dI : Nat → Nat → Nat} {sz : Nat} {cI cJ cZ : ClassId} {h_p0 : Nat} {ad_p0 : Nat → Nat} {ad_p0_all : Nat → Nat} {p0_made : Int32} {p0_turned : Int32} {p0_steps : Int32} {p0_all_width : Int32} {p0_all_size : Int32} {p0_firstIn : Nat → Int32} {p0_leads : Nat → Int32} {p0_nexts : Nat → Int32} {p0_otherIn : Nat → Int32} {p0_queue : Nat → Int32} {a1 : Int32} {post : Int32 → (Int32) → (Nat → Int32) → (Nat → Int32) → (Nat → Int32) → (Nat → Int32) → Prop} (hw : w_X1_leastAstray p0_all_size p0_steps p0_turned p0_firstIn p0_leads p0_nexts p0_otherIn p0_queue a1 post) : Met l yX1_leastAstray wsX1_leastAstray ({ frames := 2, cells := 0, slots := 0, locals := 49 }) (va_Pc [.ref h_p0, .int a1] (xPre (dC, dI) cI cJ cZ (wld_X1_leastAstray cI cJ cZ h_p0 ad_p0 ad_p0_all p0_made p0_turned p0_steps p0_all_width p0_all_size p0_firstIn p0_leads p0_nexts p0_otherIn p0_queue) sz)) (q_X1_leastAstray dC dI cI cJ cZ h_p0 ad_p0 ad_p0_all p0_made p0_turned p0_steps p0_all_width p0_all_size p0_firstIn p0_leads p0_nexts p0_otherIn p0_queue post (va_A (wld_X1_leastAstray cI cJ cZ h_p0 ad_p0 ad_p0_all p0_made p0_turned p0_steps p0_all_width p0_all_size p0_firstIn p0_leads p0_nexts p0_otherIn p0_queue) sz)) 0 0 (va_A (wld_X1_leastAstray cI cJ cZ h_p0 ad_p0 ad_p0_all p0_made p0_turned p0_steps p0_all_width p0_all_size p0_firstIn p0_leads p0_nexts p0_otherIn p0_queue) sz) := by
  refine x_met (cc := cX1_leastAstray) (maxL := 3) (ret := (some .int)) (own := RX1) (Qc := fun A => (q_X1_leastAstray dC dI cI cJ cZ h_p0 ad_p0 ad_p0_all p0_made p0_turned p0_steps p0_all_width p0_all_size p0_firstIn p0_leads p0_nexts p0_otherIn p0_queue post A)) (by decide) rfl rfl (Nat.le_of_ble_eq_true rfl) ?_
  intro p e s m args below meth c A ls E0 hP hD hS hl
  obtain ⟨hx, hb, hr, hml, hown, hts, hlocks, hK, hA, n1, n2⟩ := id E0
  have iX1 : ∀ w ∈ u_ws RX1 TX1 11, w ∈ wsX1_leastAstray := fun w h => List.mem_cons_of_mem _ (List.mem_append_left _ (List.mem_append_right _ h))
  have iX4 : ∀ w ∈ u_ws RX4 TX4 7, w ∈ wsX1_leastAstray := fun w h => List.mem_cons_of_mem _ (List.mem_append_right _ h)
  have hS0 := hS
  have hl : lv_has ls 3 [(0, .ref h_p0), (1, .int a1)] := hl
  unfold w_X1_leastAstray at hw
  obtain ⟨H, hH⟩ : ∃ H, H = s.heap := ⟨_, rfl⟩
  have hS : va_S A s.heap H [] := by rw [hH]; exact hS
  have hP : va_P (dC, dI) vwCl (wld_X1_leastAstray cI cJ cZ h_p0 ad_p0 ad_p0_all p0_made p0_turned p0_steps p0_all_width p0_all_size p0_firstIn p0_leads p0_nexts p0_otherIn p0_queue) H := by rw [hH]; exact hP
  suffices hG : W p l e ({ frames := 2, cells := 0, slots := 0, locals := 49 }) s m args below meth c H [] 0 0 (MQ below (q_X1_leastAstray dC dI cI cJ cZ h_p0 ad_p0 ad_p0_all p0_made p0_turned p0_steps p0_all_width p0_all_size p0_firstIn p0_leads p0_nexts p0_otherIn p0_queue post A) args s 0 0 A) (F0 m 0 ls []) by rw [hH] at hG; exact hG
  clear hH
  refine lv_aload_n hx hb dX1_leastAstray_0 rfl (lv_at hl 0 rfl) ?_
  obtain ⟨hPc, hDc⟩ := x_sub (wc := (wld_X1_turnRound cI cJ cZ h_p0 ad_p0 ad_p0_all p0_made p0_turned p0_steps p0_all_width p0_all_size p0_firstIn p0_nexts p0_otherIn)) hP hD [0, 1, 2, 4, 5] (n := 7) rfl rfl (by decide +kernel)
  refine x_callv (ws' := fun (u : (Int32) × (Nat → Int32) × (Nat → Int32)) => (wld_X1_leastAstray cI cJ cZ h_p0 ad_p0 ad_p0_all p0_made (u.1) p0_steps p0_all_width p0_all_size (u.2.1) p0_leads p0_nexts (u.2.2) p0_queue)) hP hD hS hA [0, 1, 2, 4, 5] [3, 6] [2, 3, 4, 0, 5, 6, 1] (n := 7) (k := 5) rfl (fun _ => rfl) rfl (by decide +kernel) (fun _ => rfl) (va_runV (As := []) (rest := []) ⟨hx, hb, hml, hown, hts⟩ (c_X1_turnRound (l := l) (dC := dC) (dI := dI) (cI := cI) (cJ := cJ) (cZ := cZ) (sz := H.size) (h_p0 := h_p0) (ad_p0 := ad_p0) (ad_p0_all := ad_p0_all) (p0_made := p0_made) (p0_turned := p0_turned) (p0_steps := p0_steps) (p0_all_width := p0_all_width) (p0_all_size := p0_all_size) (p0_firstIn := p0_firstIn) (p0_nexts := p0_nexts) (p0_otherIn := p0_otherIn) hw) (cwV 0 hts gX1_leastAstray_X1_turnRound rfl rfl rfl (by decide +kernel) ⟨Nat.le_of_ble_eq_true rfl, Nat.le_of_ble_eq_true rfl⟩) ⟨xPre_blind, va_recv hK hP (ci := 1) (q0 := 0) rfl rfl, xPre_at hK hPc hDc n1 n2⟩ rfl rfl hl.1 rfl (lv_room (Nat.le_of_ble_eq_true rfl)) dX1_leastAstray_1 ⟨Nat.zero_le _, Nat.zero_le _⟩) (fun u H locs hw hP hD hS => ?_)
  obtain ⟨y1, y2, y3⟩ := u
  try dsimp only at hw
  have hP : va_P (dC, dI) vwCl (wld_X1_leastAstray cI cJ cZ h_p0 ad_p0 ad_p0_all p0_made y1 p0_steps p0_all_width p0_all_size y2 p0_leads p0_nexts y3 p0_queue) H := hP
  have hD : va_D A (wld_X1_leastAstray cI cJ cZ h_p0 ad_p0 ad_p0_all p0_made y1 p0_steps p0_all_width p0_all_size y2 p0_leads p0_nexts y3 p0_queue) := hD
  refine lv_iconst (v := 0) hx hb dX1_leastAstray_4 (by decide) ?_
  refine lv_istore_n (lv' := [(2, .int (0 : Int32)), (0, .ref h_p0), (1, .int a1)]) hx hb dX1_leastAstray_5 rfl hl (by decide) rfl (fun ls hl => ?_)
  obtain ⟨n7, hw⟩ := hw
  refine c_X1_leastAstray_L6 (l := l) (z_p0_leads := p0_leads) E0 ?_ n7 _ _ hw _ _ _ hP hD hS (lv_sub hl [1, 2, 0] rfl)
  · intro v8 s9 H locs ls hw hP hD hS hl
    have hP : va_P (dC, dI) vwCl (wld_X1_leastAstray cI cJ cZ h_p0 ad_p0 ad_p0_all p0_made y1 p0_steps p0_all_width p0_all_size y2 s9 p0_nexts y3 p0_queue) H := hP
    have hD : va_D A (wld_X1_leastAstray cI cJ cZ h_p0 ad_p0 ad_p0_all p0_made y1 p0_steps p0_all_width p0_all_size y2 s9 p0_nexts y3 p0_queue) := hD
    refine lv_aload_n hx hb dX1_leastAstray_30 rfl (lv_at hl 0 rfl) ?_
    refine va_get (D := (dC, dI)) (ci := 1) (v := .ref (ad_p0 7)) (C := RX1) (T := TX1) (N := 11) hx hb hts iX1 hown hK hP 0 rfl rfl 7 (by decide) (hts (.fieldLink RX1 44 "NetHouse$Field" "leads" "[I") (by decide +kernel)) (fun _ h9 => h9) rfl dX1_leastAstray_31 ?_
    refine lv_iload_n hx hb dX1_leastAstray_34 rfl (lv_at hl 1 rfl) ?_
    refine lv_iconst (v := 1) hx hb dX1_leastAstray_35 (by decide) ?_
    refine va_iast hx hb hK hP hD hS 3 0 rfl rfl hw.1 dX1_leastAstray_36 (fun H locs hP hD hS => ?_)
    have hw := hw.2
    have hP : va_P (dC, dI) vwCl (wld_X1_leastAstray cI cJ cZ h_p0 ad_p0 ad_p0_all p0_made y1 p0_steps p0_all_width p0_all_size y2 (upd s9 a1.toNatClampNeg (1 : Int32)) p0_nexts y3 p0_queue) H := hP
    have hD : va_D A (wld_X1_leastAstray cI cJ cZ h_p0 ad_p0 ad_p0_all p0_made y1 p0_steps p0_all_width p0_all_size y2 (upd s9 a1.toNatClampNeg (1 : Int32)) p0_nexts y3 p0_queue) := hD
    refine lv_aload_n hx hb dX1_leastAstray_37 rfl (lv_at hl 0 rfl) ?_
    refine va_get (D := (dC, dI)) (ci := 1) (v := .ref (ad_p0 6)) (C := RX1) (T := TX1) (N := 11) hx hb hts iX1 hown hK hP 0 rfl rfl 6 (by decide) (hts (.fieldLink RX1 41 "NetHouse$Field" "queue" "[I") (by decide +kernel)) (fun _ h9 => h9) rfl dX1_leastAstray_38 ?_
    refine lv_iconst (v := 0) hx hb dX1_leastAstray_41 (by decide) ?_
    refine lv_iload_n hx hb dX1_leastAstray_42 rfl (lv_at hl 1 rfl) ?_
    refine va_iast hx hb hK hP hD hS 6 0 rfl rfl hw.1 dX1_leastAstray_43 (fun H locs hP hD hS => ?_)
    have hw := hw.2
    have hP : va_P (dC, dI) vwCl (wld_X1_leastAstray cI cJ cZ h_p0 ad_p0 ad_p0_all p0_made y1 p0_steps p0_all_width p0_all_size y2 (upd s9 a1.toNatClampNeg (1 : Int32)) p0_nexts y3 (upd p0_queue (0 : Int32).toNatClampNeg a1)) H := hP
    have hD : va_D A (wld_X1_leastAstray cI cJ cZ h_p0 ad_p0 ad_p0_all p0_made y1 p0_steps p0_all_width p0_all_size y2 (upd s9 a1.toNatClampNeg (1 : Int32)) p0_nexts y3 (upd p0_queue (0 : Int32).toNatClampNeg a1)) := hD
    refine lv_aload_n hx hb dX1_leastAstray_44 rfl (lv_at hl 0 rfl) ?_
    refine lv_iconst (v := 1) hx hb dX1_leastAstray_45 (by decide) ?_
    obtain ⟨hPc, hDc⟩ := x_sub (wc := (wld_X1_leastNotLeading cI cJ cZ h_p0 ad_p0 ad_p0_all p0_made y1 p0_steps p0_all_width p0_all_size y2 (upd s9 a1.toNatClampNeg (1 : Int32)) y3 (upd p0_queue (0 : Int32).toNatClampNeg a1))) hP hD [0, 1, 2, 3, 5, 6] (n := 7) rfl rfl (by decide +kernel)
    refine x_calli (ws' := fun (u : (Nat → Int32) × (Nat → Int32)) => (wld_X1_leastAstray cI cJ cZ h_p0 ad_p0 ad_p0_all p0_made y1 p0_steps p0_all_width p0_all_size y2 (u.1) p0_nexts y3 (u.2))) hP hD hS hA [0, 1, 2, 3, 5, 6] [4] [1, 2, 3, 4, 0, 5, 6] (n := 7) (k := 6) rfl (fun _ => rfl) rfl (by decide +kernel) (fun _ => rfl) (va_runV (As := [.int (1 : Int32)]) (rest := []) ⟨hx, hb, hml, hown, hts⟩ (c_X1_leastNotLeading (l := l) (dC := dC) (dI := dI) (cI := cI) (cJ := cJ) (cZ := cZ) (sz := H.size) (h_p0 := h_p0) (ad_p0 := ad_p0) (ad_p0_all := ad_p0_all) (p0_made := p0_made) (p0_turned := y1) (p0_steps := p0_steps) (p0_all_width := p0_all_width) (p0_all_size := p0_all_size) (p0_firstIn := y2) (p0_leads := (upd s9 a1.toNatClampNeg (1 : Int32))) (p0_otherIn := y3) (p0_queue := (upd p0_queue (0 : Int32).toNatClampNeg a1)) hw) (cwV 1 hts gX1_leastAstray_X1_leastNotLeading rfl rfl rfl (by decide +kernel) ⟨Nat.le_of_ble_eq_true rfl, Nat.le_of_ble_eq_true rfl⟩) ⟨xPre_blind, va_recv hK hP (ci := 1) (q0 := 0) rfl rfl, xPre_at hK hPc hDc n1 n2⟩ rfl rfl hl.1 rfl (lv_room (Nat.le_of_ble_eq_true rfl)) dX1_leastAstray_46 ⟨Nat.zero_le _, Nat.zero_le _⟩) (fun r10 u H locs hw hP hD hS => ?_)
    obtain ⟨y11, y12⟩ := u
    try dsimp only at hw
    have hP : va_P (dC, dI) vwCl (wld_X1_leastAstray cI cJ cZ h_p0 ad_p0 ad_p0_all p0_made y1 p0_steps p0_all_width p0_all_size y2 y11 p0_nexts y3 y12) H := hP
    have hD : va_D A (wld_X1_leastAstray cI cJ cZ h_p0 ad_p0 ad_p0_all p0_made y1 p0_steps p0_all_width p0_all_size y2 y11 p0_nexts y3 y12) := hD
    exact x_iret (w1 := fun (u : (Int32) × (Nat → Int32) × (Nat → Int32) × (Nat → Int32) × (Nat → Int32)) => (wld_X1_leastAstray cI cJ cZ h_p0 ad_p0 ad_p0_all p0_made (u.1) p0_steps p0_all_width p0_all_size (u.2.1) (u.2.2.1) p0_nexts (u.2.2.2.1) (u.2.2.2.2))) hx hb hr hlocks (y1, y2, y11, y3, y12) hw hP hD hS dX1_leastAstray_49
abbrev wld_X4_cellAt (cI cJ cZ : ClassId) (h_p0 : Nat) (ad_p0 : Nat → Nat) (n_p0 : Nat) (p0_width : Int32) (p0_size : Int32) (p0_cells : Nat → Int32) : va_W := [(h_p0, .inr (4, [.ref (ad_p0 0), .ref (ad_p0 1), .ref (ad_p0 2), .ref (ad_p0 3), .ref (ad_p0 4), .int p0_width, .int p0_size])), ((ad_p0 0), .inl (cI, (n_p0 * 16), .inl p0_cells))]
abbrev q_X4_cellAt (dC : Nat → ClassId) (dI : Nat → Nat → Nat) (cI cJ cZ : ClassId) (h_p0 : Nat) (ad_p0 : Nat → Nat) (n_p0 : Nat) (p0_width : Int32) (p0_size : Int32) (p0_cells : Nat → Int32) (post : Int32 → Prop) (A : Nat → Prop) : Array Value → State → Outcome → State → Prop := va_Qi (fun r (u : Unit) => post r ) (fun (u : Unit) t => xPost (dC, dI) A (wld_X4_cellAt cI cJ cZ h_p0 ad_p0 n_p0 p0_width p0_size p0_cells) t) A
def w_X4_cellAt (n_p0 : Nat) (p0_width : Int32) (p0_cells : Nat → Int32) (a1 : Int32) (a2 : Int32) (post : Int32 → Prop) : Prop :=
  vp_in ((a1 * p0_width) + a2) (n_p0 * 16) ∧
  (post (p0_cells ((a1 * p0_width) + a2).toNatClampNeg))
set_option maxHeartbeats 4000000 in
set_option maxRecDepth 100000 in
theorem c_X4_cellAt {l : Launch} {dC : Nat → ClassId} {dI : Nat → Nat → Nat} {sz : Nat} {cI cJ cZ : ClassId} {h_p0 : Nat} {ad_p0 : Nat → Nat} {n_p0 : Nat} {p0_width : Int32} {p0_size : Int32} {p0_cells : Nat → Int32} {a1 : Int32} {a2 : Int32} {post : Int32 → Prop} (hw : w_X4_cellAt n_p0 p0_width p0_cells a1 a2 post) : Met l yX4_cellAt wsX4_cellAt ({ frames := 0, cells := 0, slots := 0, locals := 0 }) (va_Pc [.ref h_p0, .int a1, .int a2] (xPre (dC, dI) cI cJ cZ (wld_X4_cellAt cI cJ cZ h_p0 ad_p0 n_p0 p0_width p0_size p0_cells) sz)) (q_X4_cellAt dC dI cI cJ cZ h_p0 ad_p0 n_p0 p0_width p0_size p0_cells post (va_A (wld_X4_cellAt cI cJ cZ h_p0 ad_p0 n_p0 p0_width p0_size p0_cells) sz)) 0 0 (va_A (wld_X4_cellAt cI cJ cZ h_p0 ad_p0 n_p0 p0_width p0_size p0_cells) sz) := by
  refine x_met (cc := cX4_cellAt) (maxL := 3) (ret := (some .int)) (own := RX4) (Qc := fun A => (q_X4_cellAt dC dI cI cJ cZ h_p0 ad_p0 n_p0 p0_width p0_size p0_cells post A)) (by decide) rfl rfl (Nat.le_of_ble_eq_true rfl) ?_
  intro p e s m args below meth c A ls E0 hP hD hS hl
  obtain ⟨hx, hb, hr, hml, hown, hts, hlocks, hK, hA, n1, n2⟩ := id E0
  have iX4 : ∀ w ∈ u_ws RX4 TX4 7, w ∈ wsX4_cellAt := fun w h => List.mem_cons_of_mem _ (List.mem_append_right _ h)
  have hS0 := hS
  have hl : lv_has ls 3 [(0, .ref h_p0), (1, .int a1), (2, .int a2)] := hl
  unfold w_X4_cellAt at hw
  obtain ⟨H, hH⟩ : ∃ H, H = s.heap := ⟨_, rfl⟩
  have hS : va_S A s.heap H [] := by rw [hH]; exact hS
  have hP : va_P (dC, dI) vwCl (wld_X4_cellAt cI cJ cZ h_p0 ad_p0 n_p0 p0_width p0_size p0_cells) H := by rw [hH]; exact hP
  suffices hG : W p l e ({ frames := 0, cells := 0, slots := 0, locals := 0 }) s m args below meth c H [] 0 0 (MQ below (q_X4_cellAt dC dI cI cJ cZ h_p0 ad_p0 n_p0 p0_width p0_size p0_cells post A) args s 0 0 A) (F0 m 0 ls []) by rw [hH] at hG; exact hG
  clear hH
  refine lv_aload_n hx hb dX4_cellAt_0 rfl (lv_at hl 0 rfl) ?_
  refine va_get (D := (dC, dI)) (ci := 4) (v := .ref (ad_p0 0)) (C := RX4) (T := TX4) (N := 7) hx hb hts iX4 hown hK hP 0 rfl rfl 0 (by decide) (hts (.fieldLink RX4 31 "NetHouse$Markings" "cells" "[I") (by decide +kernel)) (fun _ h9 => h9) rfl dX4_cellAt_1 ?_
  refine lv_iload_n hx hb dX4_cellAt_4 rfl (lv_at hl 1 rfl) ?_
  refine lv_aload_n hx hb dX4_cellAt_5 rfl (lv_at hl 0 rfl) ?_
  refine va_get (D := (dC, dI)) (ci := 4) (v := .int p0_width) (C := RX4) (T := TX4) (N := 7) hx hb hts iX4 hown hK hP 0 rfl rfl 5 (by decide) (hts (.fieldLink RX4 15 "NetHouse$Markings" "width" "I") (by decide +kernel)) (fun _ h9 => h9) rfl dX4_cellAt_6 ?_
  refine lv_imul hx hb dX4_cellAt_9 ?_
  refine lv_iload_n hx hb dX4_cellAt_10 rfl (lv_at hl 2 rfl) ?_
  refine lv_iadd hx hb dX4_cellAt_11 ?_
  refine va_iald hx hb hK hP 1 0 rfl rfl hw.1 dX4_cellAt_12 ?_
  have hw := hw.2
  exact x_iret (w1 := fun (u : Unit) => (wld_X4_cellAt cI cJ cZ h_p0 ad_p0 n_p0 p0_width p0_size p0_cells)) hx hb hr hlocks () hw hP hD hS dX4_cellAt_13
abbrev wld_X1_leastOtherWith (cI cJ cZ : ClassId) (h_p0 : Nat) (ad_p0 : Nat → Nat) (ad_p0_all : Nat → Nat) (n_p0_all : Nat) (p0_made : Int32) (p0_turned : Int32) (p0_steps : Int32) (p0_all_width : Int32) (p0_all_size : Int32) (p0_all_cells : Nat → Int32) : va_W := [(h_p0, .inr (1, [.ref (ad_p0 0), .ref (ad_p0 1), .ref (ad_p0 2), .ref (ad_p0 3), .ref (ad_p0 4), .ref (ad_p0 5), .ref (ad_p0 6), .ref (ad_p0 7), .int p0_made, .int p0_turned, .int p0_steps])), ((ad_p0 0), .inr (4, [.ref (ad_p0_all 0), .ref (ad_p0_all 1), .ref (ad_p0_all 2), .ref (ad_p0_all 3), .ref (ad_p0_all 4), .int p0_all_width, .int p0_all_size])), ((ad_p0_all 0), .inl (cI, (n_p0_all * 16), .inl p0_all_cells))]
abbrev q_X1_leastOtherWith (dC : Nat → ClassId) (dI : Nat → Nat → Nat) (cI cJ cZ : ClassId) (h_p0 : Nat) (ad_p0 : Nat → Nat) (ad_p0_all : Nat → Nat) (n_p0_all : Nat) (p0_made : Int32) (p0_turned : Int32) (p0_steps : Int32) (p0_all_width : Int32) (p0_all_size : Int32) (p0_all_cells : Nat → Int32) (post : Int32 → Prop) (A : Nat → Prop) : Array Value → State → Outcome → State → Prop := va_Qi (fun r (u : Unit) => post r ) (fun (u : Unit) t => xPost (dC, dI) A (wld_X1_leastOtherWith cI cJ cZ h_p0 ad_p0 ad_p0_all n_p0_all p0_made p0_turned p0_steps p0_all_width p0_all_size p0_all_cells) t) A
def w_X1_leastOtherWith_L2b (n_p0_all : Nat) (v1 : Int32) (v2 : Int32) (p0_all_size : Int32) (p0_all_width : Int32) (p0_all_cells : Nat → Int32) (post : Int32 → Prop) (K : (Int32) → Prop) (rec : (Int32) → Prop) (v3 : Int32) : Prop :=
    (p0_all_size ≤ v3 →
      K v3) ∧
    (¬ p0_all_size ≤ v3 →
      (v3 = v2 →
        ∀ x5 : Int32, x5 = v3 + (1 : Int32) →
        rec x5) ∧
      (¬ v3 = v2 →
        w_X4_cellAt n_p0_all p0_all_width p0_all_cells v3 v1 (fun r6 =>
        (r6 ≤ 0 →
          ∀ x9 : Int32, x9 = v3 + (1 : Int32) →
          rec x9) ∧
        (¬ r6 ≤ 0 →
          (post v3)))))
def w_X1_leastOtherWith_L2 (n_p0_all : Nat) (v1 : Int32) (v2 : Int32) (p0_all_size : Int32) (p0_all_width : Int32) (p0_all_cells : Nat → Int32) (post : Int32 → Prop) (K : (Int32) → Prop) : Nat → (Int32) → Prop
  | 0, _ => False
  | n + 1, v3 => w_X1_leastOtherWith_L2b n_p0_all v1 v2 p0_all_size p0_all_width p0_all_cells post K (w_X1_leastOtherWith_L2 n_p0_all v1 v2 p0_all_size p0_all_width p0_all_cells post K n) v3
def w_X1_leastOtherWith (n_p0_all : Nat) (p0_all_size : Int32) (p0_all_width : Int32) (p0_all_cells : Nat → Int32) (a1 : Int32) (a2 : Int32) (post : Int32 → Prop) : Prop :=
  ∃ n : Nat, w_X1_leastOtherWith_L2 n_p0_all a1 a2 p0_all_size p0_all_width p0_all_cells post (fun v11 =>
      (post (-2000000005 : Int32))) n (0 : Int32)
set_option maxHeartbeats 4000000 in
set_option maxRecDepth 100000 in
theorem c_X1_leastOtherWith_L2 {p : Program} {l : Launch} {e : Env} {s : State} {m : MethodId} {args : Array Value} {below : List Frame} {meth : Method} {c : Code} {dC : Nat → ClassId} {dI : Nat → Nat → Nat} {A : Nat → Prop} {cI cJ cZ : ClassId} {h_p0 : Nat} {ad_p0 : Nat → Nat} {ad_p0_all : Nat → Nat} {n_p0_all : Nat} {p0_made : Int32} {p0_turned : Int32} {p0_steps : Int32} {p0_all_width : Int32} {p0_all_size : Int32} {p0_all_cells : Nat → Int32} {v1 : Int32} {v2 : Int32}  {post : Int32 → Prop} {K : (Int32) → Prop} (E0 : xEnv p s m args meth c cX1_leastOtherWith (some .int) 4 RX1 wsX1_leastOtherWith (dC, dI) cI cJ cZ A) (hk : ∀ (v3 : Int32) (H : Heap) (locs : List Loc) (ls : Array Slot), K v3 → va_P (dC, dI) vwCl (wld_X1_leastOtherWith cI cJ cZ h_p0 ad_p0 ad_p0_all n_p0_all p0_made p0_turned p0_steps p0_all_width p0_all_size p0_all_cells) H → va_D A (wld_X1_leastOtherWith cI cJ cZ h_p0 ad_p0 ad_p0_all n_p0_all p0_made p0_turned p0_steps p0_all_width p0_all_size p0_all_cells) → va_S A s.heap H locs → lv_has ls 4 [] → W p l e ({ frames := 1, cells := 0, slots := 0, locals := 22 }) s m args below meth c H locs 0 0 (MQ below (q_X1_leastOtherWith dC dI cI cJ cZ h_p0 ad_p0 ad_p0_all n_p0_all p0_made p0_turned p0_steps p0_all_width p0_all_size p0_all_cells post A) args s 0 0 A) (F0 m 38 ls [])) : ∀ (n : Nat) (v3 : Int32), w_X1_leastOtherWith_L2 n_p0_all v1 v2 p0_all_size p0_all_width p0_all_cells post K n v3 → ∀ (H : Heap) (locs : List Loc) (ls : Array Slot), va_P (dC, dI) vwCl (wld_X1_leastOtherWith cI cJ cZ h_p0 ad_p0 ad_p0_all n_p0_all p0_made p0_turned p0_steps p0_all_width p0_all_size p0_all_cells) H → va_D A (wld_X1_leastOtherWith cI cJ cZ h_p0 ad_p0 ad_p0_all n_p0_all p0_made p0_turned p0_steps p0_all_width p0_all_size p0_all_cells) → va_S A s.heap H locs → lv_has ls 4 [(0, .ref h_p0), (1, .int v1), (2, .int v2), (3, .int v3)] → W p l e ({ frames := 1, cells := 0, slots := 0, locals := 22 }) s m args below meth c H locs 0 0 (MQ below (q_X1_leastOtherWith dC dI cI cJ cZ h_p0 ad_p0 ad_p0_all n_p0_all p0_made p0_turned p0_steps p0_all_width p0_all_size p0_all_cells post A) args s 0 0 A) (F0 m 2 ls []) := by
  obtain ⟨hx, hb, hr, hml, hown, hts, hlocks, hK, hA, n1, n2⟩ := id E0
  have iX1 : ∀ w ∈ u_ws RX1 TX1 11, w ∈ wsX1_leastOtherWith := fun w h => List.mem_cons_of_mem _ (List.mem_append_left _ (List.mem_append_right _ h))
  have iX4 : ∀ w ∈ u_ws RX4 TX4 7, w ∈ wsX1_leastOtherWith := fun w h => List.mem_cons_of_mem _ (List.mem_append_right _ h)
  intro n
  induction n with
  | zero => intro v3 hw; exact hw.elim
  | succ n ih =>
    intro v3 hw H locs ls hP hD hS hl
    have hw : w_X1_leastOtherWith_L2b n_p0_all v1 v2 p0_all_size p0_all_width p0_all_cells post K (w_X1_leastOtherWith_L2 n_p0_all v1 v2 p0_all_size p0_all_width p0_all_cells post K n) v3 := hw
    unfold w_X1_leastOtherWith_L2b at hw
    refine lv_iload_n hx hb dX1_leastOtherWith_2 rfl (lv_at hl 3 rfl) ?_
    refine lv_aload_n hx hb dX1_leastOtherWith_3 rfl (lv_at hl 0 rfl) ?_
    refine va_get (D := (dC, dI)) (ci := 1) (v := .ref (ad_p0 0)) (C := RX1) (T := TX1) (N := 11) hx hb hts iX1 hown hK hP 0 rfl rfl 0 (by decide) (hts (.fieldLink RX1 14 "NetHouse$Field" "all" "LNetHouse$Markings;") (by decide +kernel)) (fun _ h9 => h9) rfl dX1_leastOtherWith_4 ?_
    refine va_get (D := (dC, dI)) (ci := 4) (v := .int p0_all_size) (C := RX4) (T := TX4) (N := 7) hx hb hts iX4 hown hK hP 1 rfl rfl 6 (by decide) (hts (.fieldLink RX1 59 "NetHouse$Markings" "size" "I") (by decide +kernel)) (fun _ h9 => h9) rfl dX1_leastOtherWith_7 ?_
    refine lv_icmp_ge (tgt := 38) hx hb dX1_leastOtherWith_10 (by decide) (fun c1 => ?_) (fun c2 => ?_)
    · have hw := hw.1 c1
      exact hk _ _ _ _ hw hP hD hS (lv_sub hl [] rfl)
    · have hw := hw.2 c2
      refine lv_iload_n hx hb dX1_leastOtherWith_13 rfl (lv_at hl 3 rfl) ?_
      refine lv_iload_n hx hb dX1_leastOtherWith_14 rfl (lv_at hl 2 rfl) ?_
      refine lv_icmp_eq (tgt := 32) hx hb dX1_leastOtherWith_15 (by decide) (fun c3 => ?_) (fun c4 => ?_)
      · have hw := hw.1 c3
        obtain ⟨x5, ex5⟩ : ∃ y : Int32, y = v3 + (1 : Int32) := ⟨_, rfl⟩
        have hw := hw x5 ex5
        refine lv_iinc (v := x5) (lv' := [(3, .int x5), (0, .ref h_p0), (1, .int v1), (2, .int v2)]) hx hb dX1_leastOtherWith_32 hl (k := 3) rfl (by rw [ex5]; rfl) (by decide) rfl (fun ls hl => ?_)
        refine lv_goto (tgt := 2) hx hb dX1_leastOtherWith_35 (by decide) ?_
        exact ih _ hw _ _ _ hP hD hS (lv_sub hl [1, 2, 3, 0] rfl)
      · have hw := hw.2 c4
        refine lv_aload_n hx hb dX1_leastOtherWith_18 rfl (lv_at hl 0 rfl) ?_
        refine va_get (D := (dC, dI)) (ci := 1) (v := .ref (ad_p0 0)) (C := RX1) (T := TX1) (N := 11) hx hb hts iX1 hown hK hP 0 rfl rfl 0 (by decide) (hts (.fieldLink RX1 14 "NetHouse$Field" "all" "LNetHouse$Markings;") (by decide +kernel)) (fun _ h9 => h9) rfl dX1_leastOtherWith_19 ?_
        refine lv_iload_n hx hb dX1_leastOtherWith_22 rfl (lv_at hl 3 rfl) ?_
        refine lv_iload_n hx hb dX1_leastOtherWith_23 rfl (lv_at hl 1 rfl) ?_
        obtain ⟨hPc, hDc⟩ := x_sub (wc := (wld_X4_cellAt cI cJ cZ (ad_p0 0) ad_p0_all n_p0_all p0_all_width p0_all_size p0_all_cells)) hP hD [1, 2] (n := 3) rfl rfl (by decide +kernel)
        refine x_calli (ws' := fun (u : Unit) => (wld_X1_leastOtherWith cI cJ cZ h_p0 ad_p0 ad_p0_all n_p0_all p0_made p0_turned p0_steps p0_all_width p0_all_size p0_all_cells)) hP hD hS hA [1, 2] [0] [0, 1, 2] (n := 3) (k := 2) rfl (fun _ => rfl) rfl (by decide +kernel) (fun _ => rfl) (va_runV (As := [.int v3, .int v1]) (rest := []) ⟨hx, hb, hml, hown, hts⟩ (c_X4_cellAt (l := l) (dC := dC) (dI := dI) (cI := cI) (cJ := cJ) (cZ := cZ) (sz := H.size) (h_p0 := (ad_p0 0)) (ad_p0 := ad_p0_all) (n_p0 := n_p0_all) (p0_width := p0_all_width) (p0_size := p0_all_size) (p0_cells := p0_all_cells) hw) (cwV 2 hts gX1_leastOtherWith_X4_cellAt rfl rfl rfl (by decide +kernel) ⟨Nat.le_of_ble_eq_true rfl, Nat.le_of_ble_eq_true rfl⟩) ⟨xPre_blind, va_recv hK hP (ci := 4) (q0 := 1) rfl rfl, xPre_at hK hPc hDc n1 n2⟩ rfl rfl hl.1 rfl (lv_room (Nat.le_of_ble_eq_true rfl)) dX1_leastOtherWith_24 ⟨Nat.zero_le _, Nat.zero_le _⟩) (fun r6 u H locs hw hP hD hS => ?_)
        try dsimp only at hw
        have hP : va_P (dC, dI) vwCl (wld_X1_leastOtherWith cI cJ cZ h_p0 ad_p0 ad_p0_all n_p0_all p0_made p0_turned p0_steps p0_all_width p0_all_size p0_all_cells) H := hP
        have hD : va_D A (wld_X1_leastOtherWith cI cJ cZ h_p0 ad_p0 ad_p0_all n_p0_all p0_made p0_turned p0_steps p0_all_width p0_all_size p0_all_cells) := hD
        refine lv_if_le (tgt := 32) hx hb dX1_leastOtherWith_27 (by decide) (fun c7 => ?_) (fun c8 => ?_)
        · have hw := hw.1 c7
          obtain ⟨x9, ex9⟩ : ∃ y : Int32, y = v3 + (1 : Int32) := ⟨_, rfl⟩
          have hw := hw x9 ex9
          refine lv_iinc (v := x9) (lv' := [(3, .int x9), (0, .ref h_p0), (1, .int v1), (2, .int v2)]) hx hb dX1_leastOtherWith_32 hl (k := 3) rfl (by rw [ex9]; rfl) (by decide) rfl (fun ls hl => ?_)
          refine lv_goto (tgt := 2) hx hb dX1_leastOtherWith_35 (by decide) ?_
          exact ih _ hw _ _ _ hP hD hS (lv_sub hl [1, 2, 3, 0] rfl)
        · have hw := hw.2 c8
          refine lv_iload_n hx hb dX1_leastOtherWith_30 rfl (lv_at hl 3 rfl) ?_
          exact x_iret (w1 := fun (u : Unit) => (wld_X1_leastOtherWith cI cJ cZ h_p0 ad_p0 ad_p0_all n_p0_all p0_made p0_turned p0_steps p0_all_width p0_all_size p0_all_cells)) hx hb hr hlocks () hw hP hD hS dX1_leastOtherWith_31
set_option maxHeartbeats 4000000 in
set_option maxRecDepth 100000 in
theorem c_X1_leastOtherWith {l : Launch} {dC : Nat → ClassId} {dI : Nat → Nat → Nat} {sz : Nat} {cI cJ cZ : ClassId} {h_p0 : Nat} {ad_p0 : Nat → Nat} {ad_p0_all : Nat → Nat} {n_p0_all : Nat} {p0_made : Int32} {p0_turned : Int32} {p0_steps : Int32} {p0_all_width : Int32} {p0_all_size : Int32} {p0_all_cells : Nat → Int32} {a1 : Int32} {a2 : Int32} {post : Int32 → Prop} (hw : w_X1_leastOtherWith n_p0_all p0_all_size p0_all_width p0_all_cells a1 a2 post) : Met l yX1_leastOtherWith wsX1_leastOtherWith ({ frames := 1, cells := 0, slots := 0, locals := 22 }) (va_Pc [.ref h_p0, .int a1, .int a2] (xPre (dC, dI) cI cJ cZ (wld_X1_leastOtherWith cI cJ cZ h_p0 ad_p0 ad_p0_all n_p0_all p0_made p0_turned p0_steps p0_all_width p0_all_size p0_all_cells) sz)) (q_X1_leastOtherWith dC dI cI cJ cZ h_p0 ad_p0 ad_p0_all n_p0_all p0_made p0_turned p0_steps p0_all_width p0_all_size p0_all_cells post (va_A (wld_X1_leastOtherWith cI cJ cZ h_p0 ad_p0 ad_p0_all n_p0_all p0_made p0_turned p0_steps p0_all_width p0_all_size p0_all_cells) sz)) 0 0 (va_A (wld_X1_leastOtherWith cI cJ cZ h_p0 ad_p0 ad_p0_all n_p0_all p0_made p0_turned p0_steps p0_all_width p0_all_size p0_all_cells) sz) := by
  refine x_met (cc := cX1_leastOtherWith) (maxL := 4) (ret := (some .int)) (own := RX1) (Qc := fun A => (q_X1_leastOtherWith dC dI cI cJ cZ h_p0 ad_p0 ad_p0_all n_p0_all p0_made p0_turned p0_steps p0_all_width p0_all_size p0_all_cells post A)) (by decide) rfl rfl (Nat.le_of_ble_eq_true rfl) ?_
  intro p e s m args below meth c A ls E0 hP hD hS hl
  obtain ⟨hx, hb, hr, hml, hown, hts, hlocks, hK, hA, n1, n2⟩ := id E0
  have iX1 : ∀ w ∈ u_ws RX1 TX1 11, w ∈ wsX1_leastOtherWith := fun w h => List.mem_cons_of_mem _ (List.mem_append_left _ (List.mem_append_right _ h))
  have iX4 : ∀ w ∈ u_ws RX4 TX4 7, w ∈ wsX1_leastOtherWith := fun w h => List.mem_cons_of_mem _ (List.mem_append_right _ h)
  have hS0 := hS
  have hl : lv_has ls 4 [(0, .ref h_p0), (1, .int a1), (2, .int a2)] := hl
  unfold w_X1_leastOtherWith at hw
  obtain ⟨H, hH⟩ : ∃ H, H = s.heap := ⟨_, rfl⟩
  have hS : va_S A s.heap H [] := by rw [hH]; exact hS
  have hP : va_P (dC, dI) vwCl (wld_X1_leastOtherWith cI cJ cZ h_p0 ad_p0 ad_p0_all n_p0_all p0_made p0_turned p0_steps p0_all_width p0_all_size p0_all_cells) H := by rw [hH]; exact hP
  suffices hG : W p l e ({ frames := 1, cells := 0, slots := 0, locals := 22 }) s m args below meth c H [] 0 0 (MQ below (q_X1_leastOtherWith dC dI cI cJ cZ h_p0 ad_p0 ad_p0_all n_p0_all p0_made p0_turned p0_steps p0_all_width p0_all_size p0_all_cells post A) args s 0 0 A) (F0 m 0 ls []) by rw [hH] at hG; exact hG
  clear hH
  refine lv_iconst (v := 0) hx hb dX1_leastOtherWith_0 (by decide) ?_
  refine lv_istore_n (lv' := [(3, .int (0 : Int32)), (0, .ref h_p0), (1, .int a1), (2, .int a2)]) hx hb dX1_leastOtherWith_1 rfl hl (by decide) rfl (fun ls hl => ?_)
  obtain ⟨n10, hw⟩ := hw
  refine c_X1_leastOtherWith_L2 (l := l)  E0 ?_ n10 _ hw _ _ _ hP hD hS (lv_sub hl [1, 2, 3, 0] rfl)
  · intro v11 H locs ls hw hP hD hS hl
    have hP : va_P (dC, dI) vwCl (wld_X1_leastOtherWith cI cJ cZ h_p0 ad_p0 ad_p0_all n_p0_all p0_made p0_turned p0_steps p0_all_width p0_all_size p0_all_cells) H := hP
    have hD : va_D A (wld_X1_leastOtherWith cI cJ cZ h_p0 ad_p0 ad_p0_all n_p0_all p0_made p0_turned p0_steps p0_all_width p0_all_size p0_all_cells) := hD
    refine lv_ldc (v := -2000000005) hx hb hown (hts (.constant RX1 72 (-2000000005)) (by decide +kernel)) dX1_leastOtherWith_38 ?_
    exact x_iret (w1 := fun (u : Unit) => (wld_X1_leastOtherWith cI cJ cZ h_p0 ad_p0 ad_p0_all n_p0_all p0_made p0_turned p0_steps p0_all_width p0_all_size p0_all_cells)) hx hb hr hlocks () hw hP hD hS dX1_leastOtherWith_40
abbrev wld_X1_goesNowhere (cI cJ cZ : ClassId) (h_p0 : Nat) (ad_p0 : Nat → Nat) (ad_p0_all : Nat → Nat) (p0_made : Int32) (p0_turned : Int32) (p0_steps : Int32) (p0_all_width : Int32) (p0_all_size : Int32) (p0_nexts : Nat → Int32) : va_W := [(h_p0, .inr (1, [.ref (ad_p0 0), .ref (ad_p0 1), .ref (ad_p0 2), .ref (ad_p0 3), .ref (ad_p0 4), .ref (ad_p0 5), .ref (ad_p0 6), .ref (ad_p0 7), .int p0_made, .int p0_turned, .int p0_steps])), ((ad_p0 0), .inr (4, [.ref (ad_p0_all 0), .ref (ad_p0_all 1), .ref (ad_p0_all 2), .ref (ad_p0_all 3), .ref (ad_p0_all 4), .int p0_all_width, .int p0_all_size])), ((ad_p0 3), .inl (cI, 128000, .inl p0_nexts))]
abbrev q_X1_goesNowhere (dC : Nat → ClassId) (dI : Nat → Nat → Nat) (cI cJ cZ : ClassId) (h_p0 : Nat) (ad_p0 : Nat → Nat) (ad_p0_all : Nat → Nat) (p0_made : Int32) (p0_turned : Int32) (p0_steps : Int32) (p0_all_width : Int32) (p0_all_size : Int32) (p0_nexts : Nat → Int32) (post : Int32 → Prop) (A : Nat → Prop) : Array Value → State → Outcome → State → Prop := va_Qi (fun r (u : Unit) => post r ) (fun (u : Unit) t => xPost (dC, dI) A (wld_X1_goesNowhere cI cJ cZ h_p0 ad_p0 ad_p0_all p0_made p0_turned p0_steps p0_all_width p0_all_size p0_nexts) t) A
def w_X1_goesNowhere_L2b (v1 : Int32) (p0_all_size : Int32) (p0_steps : Int32) (p0_nexts : Nat → Int32) (post : Int32 → Prop) (K : (Int32) → Prop) (rec : (Int32) → Prop) (v2 : Int32) : Prop :=
    (p0_all_size ≤ v2 →
      K v2) ∧
    (¬ p0_all_size ≤ v2 →
      w_X1_leadsFrom p0_steps p0_nexts v2 v1 (fun r3 =>
      (r3 < 0 →
        ∀ x6 : Int32, x6 = v2 + (1 : Int32) →
        rec x6) ∧
      (¬ r3 < 0 →
        (post (0 : Int32)))))
def w_X1_goesNowhere_L2 (v1 : Int32) (p0_all_size : Int32) (p0_steps : Int32) (p0_nexts : Nat → Int32) (post : Int32 → Prop) (K : (Int32) → Prop) : Nat → (Int32) → Prop
  | 0, _ => False
  | n + 1, v2 => w_X1_goesNowhere_L2b v1 p0_all_size p0_steps p0_nexts post K (w_X1_goesNowhere_L2 v1 p0_all_size p0_steps p0_nexts post K n) v2
def w_X1_goesNowhere (p0_all_size : Int32) (p0_steps : Int32) (p0_nexts : Nat → Int32) (a1 : Int32) (post : Int32 → Prop) : Prop :=
  ∃ n : Nat, w_X1_goesNowhere_L2 a1 p0_all_size p0_steps p0_nexts post (fun v8 =>
      (post (1 : Int32))) n (0 : Int32)
set_option maxHeartbeats 4000000 in
set_option maxRecDepth 100000 in
theorem c_X1_goesNowhere_L2 {p : Program} {l : Launch} {e : Env} {s : State} {m : MethodId} {args : Array Value} {below : List Frame} {meth : Method} {c : Code} {dC : Nat → ClassId} {dI : Nat → Nat → Nat} {A : Nat → Prop} {cI cJ cZ : ClassId} {h_p0 : Nat} {ad_p0 : Nat → Nat} {ad_p0_all : Nat → Nat} {p0_made : Int32} {p0_turned : Int32} {p0_steps : Int32} {p0_all_width : Int32} {p0_all_size : Int32} {p0_nexts : Nat → Int32} {v1 : Int32}  {post : Int32 → Prop} {K : (Int32) → Prop} (E0 : xEnv p s m args meth c cX1_goesNowhere (some .boolean) 3 RX1 wsX1_goesNowhere (dC, dI) cI cJ cZ A) (hk : ∀ (v2 : Int32) (H : Heap) (locs : List Loc) (ls : Array Slot), K v2 → va_P (dC, dI) vwCl (wld_X1_goesNowhere cI cJ cZ h_p0 ad_p0 ad_p0_all p0_made p0_turned p0_steps p0_all_width p0_all_size p0_nexts) H → va_D A (wld_X1_goesNowhere cI cJ cZ h_p0 ad_p0 ad_p0_all p0_made p0_turned p0_steps p0_all_width p0_all_size p0_nexts) → va_S A s.heap H locs → lv_has ls 3 [] → W p l e ({ frames := 1, cells := 0, slots := 0, locals := 22 }) s m args below meth c H locs 0 0 (MQ below (q_X1_goesNowhere dC dI cI cJ cZ h_p0 ad_p0 ad_p0_all p0_made p0_turned p0_steps p0_all_width p0_all_size p0_nexts post A) args s 0 0 A) (F0 m 30 ls [])) : ∀ (n : Nat) (v2 : Int32), w_X1_goesNowhere_L2 v1 p0_all_size p0_steps p0_nexts post K n v2 → ∀ (H : Heap) (locs : List Loc) (ls : Array Slot), va_P (dC, dI) vwCl (wld_X1_goesNowhere cI cJ cZ h_p0 ad_p0 ad_p0_all p0_made p0_turned p0_steps p0_all_width p0_all_size p0_nexts) H → va_D A (wld_X1_goesNowhere cI cJ cZ h_p0 ad_p0 ad_p0_all p0_made p0_turned p0_steps p0_all_width p0_all_size p0_nexts) → va_S A s.heap H locs → lv_has ls 3 [(0, .ref h_p0), (1, .int v1), (2, .int v2)] → W p l e ({ frames := 1, cells := 0, slots := 0, locals := 22 }) s m args below meth c H locs 0 0 (MQ below (q_X1_goesNowhere dC dI cI cJ cZ h_p0 ad_p0 ad_p0_all p0_made p0_turned p0_steps p0_all_width p0_all_size p0_nexts post A) args s 0 0 A) (F0 m 2 ls []) := by
  obtain ⟨hx, hb, hr, hml, hown, hts, hlocks, hK, hA, n1, n2⟩ := id E0
  have iX1 : ∀ w ∈ u_ws RX1 TX1 11, w ∈ wsX1_goesNowhere := fun w h => List.mem_cons_of_mem _ (List.mem_append_left _ (List.mem_append_right _ h))
  have iX4 : ∀ w ∈ u_ws RX4 TX4 7, w ∈ wsX1_goesNowhere := fun w h => List.mem_cons_of_mem _ (List.mem_append_right _ h)
  intro n
  induction n with
  | zero => intro v2 hw; exact hw.elim
  | succ n ih =>
    intro v2 hw H locs ls hP hD hS hl
    have hw : w_X1_goesNowhere_L2b v1 p0_all_size p0_steps p0_nexts post K (w_X1_goesNowhere_L2 v1 p0_all_size p0_steps p0_nexts post K n) v2 := hw
    unfold w_X1_goesNowhere_L2b at hw
    refine lv_iload_n hx hb dX1_goesNowhere_2 rfl (lv_at hl 2 rfl) ?_
    refine lv_aload_n hx hb dX1_goesNowhere_3 rfl (lv_at hl 0 rfl) ?_
    refine va_get (D := (dC, dI)) (ci := 1) (v := .ref (ad_p0 0)) (C := RX1) (T := TX1) (N := 11) hx hb hts iX1 hown hK hP 0 rfl rfl 0 (by decide) (hts (.fieldLink RX1 14 "NetHouse$Field" "all" "LNetHouse$Markings;") (by decide +kernel)) (fun _ h9 => h9) rfl dX1_goesNowhere_4 ?_
    refine va_get (D := (dC, dI)) (ci := 4) (v := .int p0_all_size) (C := RX4) (T := TX4) (N := 7) hx hb hts iX4 hown hK hP 1 rfl rfl 6 (by decide) (hts (.fieldLink RX1 59 "NetHouse$Markings" "size" "I") (by decide +kernel)) (fun _ h9 => h9) rfl dX1_goesNowhere_7 ?_
    refine lv_icmp_ge (tgt := 30) hx hb dX1_goesNowhere_10 (by decide) (fun c1 => ?_) (fun c2 => ?_)
    · have hw := hw.1 c1
      exact hk _ _ _ _ hw hP hD hS (lv_sub hl [] rfl)
    · have hw := hw.2 c2
      refine lv_aload_n hx hb dX1_goesNowhere_13 rfl (lv_at hl 0 rfl) ?_
      refine lv_iload_n hx hb dX1_goesNowhere_14 rfl (lv_at hl 2 rfl) ?_
      refine lv_iload_n hx hb dX1_goesNowhere_15 rfl (lv_at hl 1 rfl) ?_
      obtain ⟨hPc, hDc⟩ := x_sub (wc := (wld_X1_leadsFrom cI cJ cZ h_p0 ad_p0 p0_made p0_turned p0_steps p0_nexts)) hP hD [0, 2] (n := 3) rfl rfl (by decide +kernel)
      refine x_calli (ws' := fun (u : Unit) => (wld_X1_goesNowhere cI cJ cZ h_p0 ad_p0 ad_p0_all p0_made p0_turned p0_steps p0_all_width p0_all_size p0_nexts)) hP hD hS hA [0, 2] [1] [1, 0, 2] (n := 3) (k := 2) rfl (fun _ => rfl) rfl (by decide +kernel) (fun _ => rfl) (va_runV (As := [.int v2, .int v1]) (rest := []) ⟨hx, hb, hml, hown, hts⟩ (c_X1_leadsFrom (l := l) (dC := dC) (dI := dI) (cI := cI) (cJ := cJ) (cZ := cZ) (sz := H.size) (h_p0 := h_p0) (ad_p0 := ad_p0) (p0_made := p0_made) (p0_turned := p0_turned) (p0_steps := p0_steps) (p0_nexts := p0_nexts) hw) (cwV 2 hts gX1_goesNowhere_X1_leadsFrom rfl rfl rfl (by decide +kernel) ⟨Nat.le_of_ble_eq_true rfl, Nat.le_of_ble_eq_true rfl⟩) ⟨xPre_blind, va_recv hK hP (ci := 1) (q0 := 0) rfl rfl, xPre_at hK hPc hDc n1 n2⟩ rfl rfl hl.1 rfl (lv_room (Nat.le_of_ble_eq_true rfl)) dX1_goesNowhere_16 ⟨Nat.zero_le _, Nat.zero_le _⟩) (fun r3 u H locs hw hP hD hS => ?_)
      try dsimp only at hw
      have hP : va_P (dC, dI) vwCl (wld_X1_goesNowhere cI cJ cZ h_p0 ad_p0 ad_p0_all p0_made p0_turned p0_steps p0_all_width p0_all_size p0_nexts) H := hP
      have hD : va_D A (wld_X1_goesNowhere cI cJ cZ h_p0 ad_p0 ad_p0_all p0_made p0_turned p0_steps p0_all_width p0_all_size p0_nexts) := hD
      refine lv_if_lt (tgt := 24) hx hb dX1_goesNowhere_19 (by decide) (fun c4 => ?_) (fun c5 => ?_)
      · have hw := hw.1 c4
        obtain ⟨x6, ex6⟩ : ∃ y : Int32, y = v2 + (1 : Int32) := ⟨_, rfl⟩
        have hw := hw x6 ex6
        refine lv_iinc (v := x6) (lv' := [(2, .int x6), (0, .ref h_p0), (1, .int v1)]) hx hb dX1_goesNowhere_24 hl (k := 2) rfl (by rw [ex6]; rfl) (by decide) rfl (fun ls hl => ?_)
        refine lv_goto (tgt := 2) hx hb dX1_goesNowhere_27 (by decide) ?_
        exact ih _ hw _ _ _ hP hD hS (lv_sub hl [1, 2, 0] rfl)
      · have hw := hw.2 c5
        refine lv_iconst (v := 0) hx hb dX1_goesNowhere_22 (by decide) ?_
        exact x_zret (w1 := fun (u : Unit) => (wld_X1_goesNowhere cI cJ cZ h_p0 ad_p0 ad_p0_all p0_made p0_turned p0_steps p0_all_width p0_all_size p0_nexts)) hx hb hr hlocks (by decide) () hw hP hD hS dX1_goesNowhere_23
set_option maxHeartbeats 4000000 in
set_option maxRecDepth 100000 in
theorem c_X1_goesNowhere {l : Launch} {dC : Nat → ClassId} {dI : Nat → Nat → Nat} {sz : Nat} {cI cJ cZ : ClassId} {h_p0 : Nat} {ad_p0 : Nat → Nat} {ad_p0_all : Nat → Nat} {p0_made : Int32} {p0_turned : Int32} {p0_steps : Int32} {p0_all_width : Int32} {p0_all_size : Int32} {p0_nexts : Nat → Int32} {a1 : Int32} {post : Int32 → Prop} (hw : w_X1_goesNowhere p0_all_size p0_steps p0_nexts a1 post) : Met l yX1_goesNowhere wsX1_goesNowhere ({ frames := 1, cells := 0, slots := 0, locals := 22 }) (va_Pc [.ref h_p0, .int a1] (xPre (dC, dI) cI cJ cZ (wld_X1_goesNowhere cI cJ cZ h_p0 ad_p0 ad_p0_all p0_made p0_turned p0_steps p0_all_width p0_all_size p0_nexts) sz)) (q_X1_goesNowhere dC dI cI cJ cZ h_p0 ad_p0 ad_p0_all p0_made p0_turned p0_steps p0_all_width p0_all_size p0_nexts post (va_A (wld_X1_goesNowhere cI cJ cZ h_p0 ad_p0 ad_p0_all p0_made p0_turned p0_steps p0_all_width p0_all_size p0_nexts) sz)) 0 0 (va_A (wld_X1_goesNowhere cI cJ cZ h_p0 ad_p0 ad_p0_all p0_made p0_turned p0_steps p0_all_width p0_all_size p0_nexts) sz) := by
  refine x_met (cc := cX1_goesNowhere) (maxL := 3) (ret := (some .boolean)) (own := RX1) (Qc := fun A => (q_X1_goesNowhere dC dI cI cJ cZ h_p0 ad_p0 ad_p0_all p0_made p0_turned p0_steps p0_all_width p0_all_size p0_nexts post A)) (by decide) rfl rfl (Nat.le_of_ble_eq_true rfl) ?_
  intro p e s m args below meth c A ls E0 hP hD hS hl
  obtain ⟨hx, hb, hr, hml, hown, hts, hlocks, hK, hA, n1, n2⟩ := id E0
  have iX1 : ∀ w ∈ u_ws RX1 TX1 11, w ∈ wsX1_goesNowhere := fun w h => List.mem_cons_of_mem _ (List.mem_append_left _ (List.mem_append_right _ h))
  have iX4 : ∀ w ∈ u_ws RX4 TX4 7, w ∈ wsX1_goesNowhere := fun w h => List.mem_cons_of_mem _ (List.mem_append_right _ h)
  have hS0 := hS
  have hl : lv_has ls 3 [(0, .ref h_p0), (1, .int a1)] := hl
  unfold w_X1_goesNowhere at hw
  obtain ⟨H, hH⟩ : ∃ H, H = s.heap := ⟨_, rfl⟩
  have hS : va_S A s.heap H [] := by rw [hH]; exact hS
  have hP : va_P (dC, dI) vwCl (wld_X1_goesNowhere cI cJ cZ h_p0 ad_p0 ad_p0_all p0_made p0_turned p0_steps p0_all_width p0_all_size p0_nexts) H := by rw [hH]; exact hP
  suffices hG : W p l e ({ frames := 1, cells := 0, slots := 0, locals := 22 }) s m args below meth c H [] 0 0 (MQ below (q_X1_goesNowhere dC dI cI cJ cZ h_p0 ad_p0 ad_p0_all p0_made p0_turned p0_steps p0_all_width p0_all_size p0_nexts post A) args s 0 0 A) (F0 m 0 ls []) by rw [hH] at hG; exact hG
  clear hH
  refine lv_iconst (v := 0) hx hb dX1_goesNowhere_0 (by decide) ?_
  refine lv_istore_n (lv' := [(2, .int (0 : Int32)), (0, .ref h_p0), (1, .int a1)]) hx hb dX1_goesNowhere_1 rfl hl (by decide) rfl (fun ls hl => ?_)
  obtain ⟨n7, hw⟩ := hw
  refine c_X1_goesNowhere_L2 (l := l)  E0 ?_ n7 _ hw _ _ _ hP hD hS (lv_sub hl [1, 2, 0] rfl)
  · intro v8 H locs ls hw hP hD hS hl
    have hP : va_P (dC, dI) vwCl (wld_X1_goesNowhere cI cJ cZ h_p0 ad_p0 ad_p0_all p0_made p0_turned p0_steps p0_all_width p0_all_size p0_nexts) H := hP
    have hD : va_D A (wld_X1_goesNowhere cI cJ cZ h_p0 ad_p0 ad_p0_all p0_made p0_turned p0_steps p0_all_width p0_all_size p0_nexts) := hD
    refine lv_iconst (v := 1) hx hb dX1_goesNowhere_30 (by decide) ?_
    exact x_zret (w1 := fun (u : Unit) => (wld_X1_goesNowhere cI cJ cZ h_p0 ad_p0 ad_p0_all p0_made p0_turned p0_steps p0_all_width p0_all_size p0_nexts)) hx hb hr hlocks (by decide) () hw hP hD hS dX1_goesNowhere_31
abbrev wld_X1_leastIdleStep (cI cJ cZ : ClassId) (h_p0 : Nat) (ad_p0 : Nat → Nat) (ad_p0_all : Nat → Nat) (p0_made : Int32) (p0_turned : Int32) (p0_steps : Int32) (p0_all_width : Int32) (p0_all_size : Int32) (p0_nexts : Nat → Int32) : va_W := [(h_p0, .inr (1, [.ref (ad_p0 0), .ref (ad_p0 1), .ref (ad_p0 2), .ref (ad_p0 3), .ref (ad_p0 4), .ref (ad_p0 5), .ref (ad_p0 6), .ref (ad_p0 7), .int p0_made, .int p0_turned, .int p0_steps])), ((ad_p0 0), .inr (4, [.ref (ad_p0_all 0), .ref (ad_p0_all 1), .ref (ad_p0_all 2), .ref (ad_p0_all 3), .ref (ad_p0_all 4), .int p0_all_width, .int p0_all_size])), ((ad_p0 3), .inl (cI, 128000, .inl p0_nexts))]
abbrev q_X1_leastIdleStep (dC : Nat → ClassId) (dI : Nat → Nat → Nat) (cI cJ cZ : ClassId) (h_p0 : Nat) (ad_p0 : Nat → Nat) (ad_p0_all : Nat → Nat) (p0_made : Int32) (p0_turned : Int32) (p0_steps : Int32) (p0_all_width : Int32) (p0_all_size : Int32) (p0_nexts : Nat → Int32) (post : Int32 → Prop) (A : Nat → Prop) : Array Value → State → Outcome → State → Prop := va_Qi (fun r (u : Unit) => post r ) (fun (u : Unit) t => xPost (dC, dI) A (wld_X1_leastIdleStep cI cJ cZ h_p0 ad_p0 ad_p0_all p0_made p0_turned p0_steps p0_all_width p0_all_size p0_nexts) t) A
def w_X1_leastIdleStep_L2b (p0_all_size : Int32) (p0_steps : Int32) (p0_nexts : Nat → Int32) (post : Int32 → Prop) (K : (Int32) → Prop) (rec : (Int32) → Prop) (v1 : Int32) : Prop :=
    (p0_steps ≤ v1 →
      K v1) ∧
    (¬ p0_steps ≤ v1 →
      w_X1_goesNowhere p0_all_size p0_steps p0_nexts v1 (fun r3 =>
      (r3 = 0 →
        ∀ x6 : Int32, x6 = v1 + (1 : Int32) →
        rec x6) ∧
      (¬ r3 = 0 →
        (post v1))))
def w_X1_leastIdleStep_L2 (p0_all_size : Int32) (p0_steps : Int32) (p0_nexts : Nat → Int32) (post : Int32 → Prop) (K : (Int32) → Prop) : Nat → (Int32) → Prop
  | 0, _ => False
  | n + 1, v1 => w_X1_leastIdleStep_L2b p0_all_size p0_steps p0_nexts post K (w_X1_leastIdleStep_L2 p0_all_size p0_steps p0_nexts post K n) v1
def w_X1_leastIdleStep (p0_all_size : Int32) (p0_steps : Int32) (p0_nexts : Nat → Int32) (post : Int32 → Prop) : Prop :=
  ∃ n : Nat, w_X1_leastIdleStep_L2 p0_all_size p0_steps p0_nexts post (fun v8 =>
      (post (-2000000005 : Int32))) n (0 : Int32)
set_option maxHeartbeats 4000000 in
set_option maxRecDepth 100000 in
theorem c_X1_leastIdleStep_L2 {p : Program} {l : Launch} {e : Env} {s : State} {m : MethodId} {args : Array Value} {below : List Frame} {meth : Method} {c : Code} {dC : Nat → ClassId} {dI : Nat → Nat → Nat} {A : Nat → Prop} {cI cJ cZ : ClassId} {h_p0 : Nat} {ad_p0 : Nat → Nat} {ad_p0_all : Nat → Nat} {p0_made : Int32} {p0_turned : Int32} {p0_steps : Int32} {p0_all_width : Int32} {p0_all_size : Int32} {p0_nexts : Nat → Int32}  {post : Int32 → Prop} {K : (Int32) → Prop} (E0 : xEnv p s m args meth c cX1_leastIdleStep (some .int) 2 RX1 wsX1_leastIdleStep (dC, dI) cI cJ cZ A) (hk : ∀ (v1 : Int32) (H : Heap) (locs : List Loc) (ls : Array Slot), K v1 → va_P (dC, dI) vwCl (wld_X1_leastIdleStep cI cJ cZ h_p0 ad_p0 ad_p0_all p0_made p0_turned p0_steps p0_all_width p0_all_size p0_nexts) H → va_D A (wld_X1_leastIdleStep cI cJ cZ h_p0 ad_p0 ad_p0_all p0_made p0_turned p0_steps p0_all_width p0_all_size p0_nexts) → va_S A s.heap H locs → lv_has ls 2 [] → W p l e ({ frames := 2, cells := 0, slots := 0, locals := 44 }) s m args below meth c H locs 0 0 (MQ below (q_X1_leastIdleStep dC dI cI cJ cZ h_p0 ad_p0 ad_p0_all p0_made p0_turned p0_steps p0_all_width p0_all_size p0_nexts post A) args s 0 0 A) (F0 m 26 ls [])) : ∀ (n : Nat) (v1 : Int32), w_X1_leastIdleStep_L2 p0_all_size p0_steps p0_nexts post K n v1 → ∀ (H : Heap) (locs : List Loc) (ls : Array Slot), va_P (dC, dI) vwCl (wld_X1_leastIdleStep cI cJ cZ h_p0 ad_p0 ad_p0_all p0_made p0_turned p0_steps p0_all_width p0_all_size p0_nexts) H → va_D A (wld_X1_leastIdleStep cI cJ cZ h_p0 ad_p0 ad_p0_all p0_made p0_turned p0_steps p0_all_width p0_all_size p0_nexts) → va_S A s.heap H locs → lv_has ls 2 [(0, .ref h_p0), (1, .int v1)] → W p l e ({ frames := 2, cells := 0, slots := 0, locals := 44 }) s m args below meth c H locs 0 0 (MQ below (q_X1_leastIdleStep dC dI cI cJ cZ h_p0 ad_p0 ad_p0_all p0_made p0_turned p0_steps p0_all_width p0_all_size p0_nexts post A) args s 0 0 A) (F0 m 2 ls []) := by
  obtain ⟨hx, hb, hr, hml, hown, hts, hlocks, hK, hA, n1, n2⟩ := id E0
  have iX1 : ∀ w ∈ u_ws RX1 TX1 11, w ∈ wsX1_leastIdleStep := fun w h => List.mem_cons_of_mem _ (List.mem_append_left _ (List.mem_append_right _ h))
  have iX4 : ∀ w ∈ u_ws RX4 TX4 7, w ∈ wsX1_leastIdleStep := fun w h => List.mem_cons_of_mem _ (List.mem_append_right _ h)
  intro n
  induction n with
  | zero => intro v1 hw; exact hw.elim
  | succ n ih =>
    intro v1 hw H locs ls hP hD hS hl
    have hw : w_X1_leastIdleStep_L2b p0_all_size p0_steps p0_nexts post K (w_X1_leastIdleStep_L2 p0_all_size p0_steps p0_nexts post K n) v1 := hw
    unfold w_X1_leastIdleStep_L2b at hw
    refine lv_iload_n hx hb dX1_leastIdleStep_2 rfl (lv_at hl 1 rfl) ?_
    refine lv_aload_n hx hb dX1_leastIdleStep_3 rfl (lv_at hl 0 rfl) ?_
    refine va_get (D := (dC, dI)) (ci := 1) (v := .int p0_steps) (C := RX1) (T := TX1) (N := 11) hx hb hts iX1 hown hK hP 0 rfl rfl 10 (by decide) (hts (.fieldLink RX1 54 "NetHouse$Field" "steps" "I") (by decide +kernel)) (fun _ h9 => h9) rfl dX1_leastIdleStep_4 ?_
    refine lv_icmp_ge (tgt := 26) hx hb dX1_leastIdleStep_7 (by decide) (fun c1 => ?_) (fun c2 => ?_)
    · have hw := hw.1 c1
      exact hk _ _ _ _ hw hP hD hS (lv_sub hl [] rfl)
    · have hw := hw.2 c2
      refine lv_aload_n hx hb dX1_leastIdleStep_10 rfl (lv_at hl 0 rfl) ?_
      refine lv_iload_n hx hb dX1_leastIdleStep_11 rfl (lv_at hl 1 rfl) ?_
      obtain ⟨hPc, hDc⟩ := x_sub (wc := (wld_X1_goesNowhere cI cJ cZ h_p0 ad_p0 ad_p0_all p0_made p0_turned p0_steps p0_all_width p0_all_size p0_nexts)) hP hD [0, 1, 2] (n := 3) rfl rfl (by decide +kernel)
      refine x_calli (ws' := fun (u : Unit) => (wld_X1_leastIdleStep cI cJ cZ h_p0 ad_p0 ad_p0_all p0_made p0_turned p0_steps p0_all_width p0_all_size p0_nexts)) hP hD hS hA [0, 1, 2] [] [0, 1, 2] (n := 3) (k := 3) rfl (fun _ => rfl) rfl (by decide +kernel) (fun _ => rfl) (va_runV (As := [.int v1]) (rest := []) ⟨hx, hb, hml, hown, hts⟩ (c_X1_goesNowhere (l := l) (dC := dC) (dI := dI) (cI := cI) (cJ := cJ) (cZ := cZ) (sz := H.size) (h_p0 := h_p0) (ad_p0 := ad_p0) (ad_p0_all := ad_p0_all) (p0_made := p0_made) (p0_turned := p0_turned) (p0_steps := p0_steps) (p0_all_width := p0_all_width) (p0_all_size := p0_all_size) (p0_nexts := p0_nexts) hw) (cwV 1 hts gX1_leastIdleStep_X1_goesNowhere rfl rfl rfl (by decide +kernel) ⟨Nat.le_of_ble_eq_true rfl, Nat.le_of_ble_eq_true rfl⟩) ⟨xPre_blind, va_recv hK hP (ci := 1) (q0 := 0) rfl rfl, xPre_at hK hPc hDc n1 n2⟩ rfl rfl hl.1 rfl (lv_room (Nat.le_of_ble_eq_true rfl)) dX1_leastIdleStep_12 ⟨Nat.zero_le _, Nat.zero_le _⟩) (fun r3 u H locs hw hP hD hS => ?_)
      try dsimp only at hw
      have hP : va_P (dC, dI) vwCl (wld_X1_leastIdleStep cI cJ cZ h_p0 ad_p0 ad_p0_all p0_made p0_turned p0_steps p0_all_width p0_all_size p0_nexts) H := hP
      have hD : va_D A (wld_X1_leastIdleStep cI cJ cZ h_p0 ad_p0 ad_p0_all p0_made p0_turned p0_steps p0_all_width p0_all_size p0_nexts) := hD
      refine lv_if_eq (tgt := 20) hx hb dX1_leastIdleStep_15 (by decide) (fun c4 => ?_) (fun c5 => ?_)
      · have hw := hw.1 c4
        obtain ⟨x6, ex6⟩ : ∃ y : Int32, y = v1 + (1 : Int32) := ⟨_, rfl⟩
        have hw := hw x6 ex6
        refine lv_iinc (v := x6) (lv' := [(1, .int x6), (0, .ref h_p0)]) hx hb dX1_leastIdleStep_20 hl (k := 1) rfl (by rw [ex6]; rfl) (by decide) rfl (fun ls hl => ?_)
        refine lv_goto (tgt := 2) hx hb dX1_leastIdleStep_23 (by decide) ?_
        exact ih _ hw _ _ _ hP hD hS (lv_sub hl [1, 0] rfl)
      · have hw := hw.2 c5
        refine lv_iload_n hx hb dX1_leastIdleStep_18 rfl (lv_at hl 1 rfl) ?_
        exact x_iret (w1 := fun (u : Unit) => (wld_X1_leastIdleStep cI cJ cZ h_p0 ad_p0 ad_p0_all p0_made p0_turned p0_steps p0_all_width p0_all_size p0_nexts)) hx hb hr hlocks () hw hP hD hS dX1_leastIdleStep_19
set_option maxHeartbeats 4000000 in
set_option maxRecDepth 100000 in
theorem c_X1_leastIdleStep {l : Launch} {dC : Nat → ClassId} {dI : Nat → Nat → Nat} {sz : Nat} {cI cJ cZ : ClassId} {h_p0 : Nat} {ad_p0 : Nat → Nat} {ad_p0_all : Nat → Nat} {p0_made : Int32} {p0_turned : Int32} {p0_steps : Int32} {p0_all_width : Int32} {p0_all_size : Int32} {p0_nexts : Nat → Int32}  {post : Int32 → Prop} (hw : w_X1_leastIdleStep p0_all_size p0_steps p0_nexts post) : Met l yX1_leastIdleStep wsX1_leastIdleStep ({ frames := 2, cells := 0, slots := 0, locals := 44 }) (va_Pc [.ref h_p0] (xPre (dC, dI) cI cJ cZ (wld_X1_leastIdleStep cI cJ cZ h_p0 ad_p0 ad_p0_all p0_made p0_turned p0_steps p0_all_width p0_all_size p0_nexts) sz)) (q_X1_leastIdleStep dC dI cI cJ cZ h_p0 ad_p0 ad_p0_all p0_made p0_turned p0_steps p0_all_width p0_all_size p0_nexts post (va_A (wld_X1_leastIdleStep cI cJ cZ h_p0 ad_p0 ad_p0_all p0_made p0_turned p0_steps p0_all_width p0_all_size p0_nexts) sz)) 0 0 (va_A (wld_X1_leastIdleStep cI cJ cZ h_p0 ad_p0 ad_p0_all p0_made p0_turned p0_steps p0_all_width p0_all_size p0_nexts) sz) := by
  refine x_met (cc := cX1_leastIdleStep) (maxL := 2) (ret := (some .int)) (own := RX1) (Qc := fun A => (q_X1_leastIdleStep dC dI cI cJ cZ h_p0 ad_p0 ad_p0_all p0_made p0_turned p0_steps p0_all_width p0_all_size p0_nexts post A)) (by decide) rfl rfl (Nat.le_of_ble_eq_true rfl) ?_
  intro p e s m args below meth c A ls E0 hP hD hS hl
  obtain ⟨hx, hb, hr, hml, hown, hts, hlocks, hK, hA, n1, n2⟩ := id E0
  have iX1 : ∀ w ∈ u_ws RX1 TX1 11, w ∈ wsX1_leastIdleStep := fun w h => List.mem_cons_of_mem _ (List.mem_append_left _ (List.mem_append_right _ h))
  have iX4 : ∀ w ∈ u_ws RX4 TX4 7, w ∈ wsX1_leastIdleStep := fun w h => List.mem_cons_of_mem _ (List.mem_append_right _ h)
  have hS0 := hS
  have hl : lv_has ls 2 [(0, .ref h_p0)] := hl
  unfold w_X1_leastIdleStep at hw
  obtain ⟨H, hH⟩ : ∃ H, H = s.heap := ⟨_, rfl⟩
  have hS : va_S A s.heap H [] := by rw [hH]; exact hS
  have hP : va_P (dC, dI) vwCl (wld_X1_leastIdleStep cI cJ cZ h_p0 ad_p0 ad_p0_all p0_made p0_turned p0_steps p0_all_width p0_all_size p0_nexts) H := by rw [hH]; exact hP
  suffices hG : W p l e ({ frames := 2, cells := 0, slots := 0, locals := 44 }) s m args below meth c H [] 0 0 (MQ below (q_X1_leastIdleStep dC dI cI cJ cZ h_p0 ad_p0 ad_p0_all p0_made p0_turned p0_steps p0_all_width p0_all_size p0_nexts post A) args s 0 0 A) (F0 m 0 ls []) by rw [hH] at hG; exact hG
  clear hH
  refine lv_iconst (v := 0) hx hb dX1_leastIdleStep_0 (by decide) ?_
  refine lv_istore_n (lv' := [(1, .int (0 : Int32)), (0, .ref h_p0)]) hx hb dX1_leastIdleStep_1 rfl hl (by decide) rfl (fun ls hl => ?_)
  obtain ⟨n7, hw⟩ := hw
  refine c_X1_leastIdleStep_L2 (l := l)  E0 ?_ n7 _ hw _ _ _ hP hD hS (lv_sub hl [1, 0] rfl)
  · intro v8 H locs ls hw hP hD hS hl
    have hP : va_P (dC, dI) vwCl (wld_X1_leastIdleStep cI cJ cZ h_p0 ad_p0 ad_p0_all p0_made p0_turned p0_steps p0_all_width p0_all_size p0_nexts) H := hP
    have hD : va_D A (wld_X1_leastIdleStep cI cJ cZ h_p0 ad_p0 ad_p0_all p0_made p0_turned p0_steps p0_all_width p0_all_size p0_nexts) := hD
    refine lv_ldc (v := -2000000005) hx hb hown (hts (.constant RX1 72 (-2000000005)) (by decide +kernel)) dX1_leastIdleStep_26 ?_
    exact x_iret (w1 := fun (u : Unit) => (wld_X1_leastIdleStep cI cJ cZ h_p0 ad_p0 ad_p0_all p0_made p0_turned p0_steps p0_all_width p0_all_size p0_nexts)) hx hb hr hlocks () hw hP hD hS dX1_leastIdleStep_28
abbrev wld_X2_hasNumber (cI cJ cZ : ClassId) (h_p0 : Nat) (ad_p0 : Nat → Nat) (p0_rowSize : Int32) (p0_waySize : Int32) : va_W := [(h_p0, .inr (2, [.ref (ad_p0 0), .ref (ad_p0 1), .int p0_rowSize, .int p0_waySize]))]
abbrev q_X2_hasNumber (dC : Nat → ClassId) (dI : Nat → Nat → Nat) (cI cJ cZ : ClassId) (h_p0 : Nat) (ad_p0 : Nat → Nat) (p0_rowSize : Int32) (p0_waySize : Int32) (post : Int32 → Prop) (A : Nat → Prop) : Array Value → State → Outcome → State → Prop := va_Qi (fun r (u : Unit) => post r ) (fun (u : Unit) t => xPost (dC, dI) A (wld_X2_hasNumber cI cJ cZ h_p0 ad_p0 p0_rowSize p0_waySize) t) A
def w_X2_hasNumber (p0_rowSize : Int32) (a1 : Int32) (post : Int32 → Prop) : Prop :=
  (a1 < 0 →
    (post (0 : Int32))) ∧
  (¬ a1 < 0 →
    (p0_rowSize ≤ a1 →
      (post (0 : Int32))) ∧
    (¬ p0_rowSize ≤ a1 →
      (post (1 : Int32))))
set_option maxHeartbeats 4000000 in
set_option maxRecDepth 100000 in
theorem c_X2_hasNumber {l : Launch} {dC : Nat → ClassId} {dI : Nat → Nat → Nat} {sz : Nat} {cI cJ cZ : ClassId} {h_p0 : Nat} {ad_p0 : Nat → Nat} {p0_rowSize : Int32} {p0_waySize : Int32} {a1 : Int32} {post : Int32 → Prop} (hw : w_X2_hasNumber p0_rowSize a1 post) : Met l yX2_hasNumber wsX2_hasNumber ({ frames := 0, cells := 0, slots := 0, locals := 0 }) (va_Pc [.ref h_p0, .int a1] (xPre (dC, dI) cI cJ cZ (wld_X2_hasNumber cI cJ cZ h_p0 ad_p0 p0_rowSize p0_waySize) sz)) (q_X2_hasNumber dC dI cI cJ cZ h_p0 ad_p0 p0_rowSize p0_waySize post (va_A (wld_X2_hasNumber cI cJ cZ h_p0 ad_p0 p0_rowSize p0_waySize) sz)) 0 0 (va_A (wld_X2_hasNumber cI cJ cZ h_p0 ad_p0 p0_rowSize p0_waySize) sz) := by
  refine x_met (cc := cX2_hasNumber) (maxL := 2) (ret := (some .boolean)) (own := RX2) (Qc := fun A => (q_X2_hasNumber dC dI cI cJ cZ h_p0 ad_p0 p0_rowSize p0_waySize post A)) (by decide) rfl rfl (Nat.le_of_ble_eq_true rfl) ?_
  intro p e s m args below meth c A ls E0 hP hD hS hl
  obtain ⟨hx, hb, hr, hml, hown, hts, hlocks, hK, hA, n1, n2⟩ := id E0
  have iX2 : ∀ w ∈ u_ws RX2 TX2 4, w ∈ wsX2_hasNumber := fun w h => List.mem_cons_of_mem _ (List.mem_append_right _ h)
  have hS0 := hS
  have hl : lv_has ls 2 [(0, .ref h_p0), (1, .int a1)] := hl
  unfold w_X2_hasNumber at hw
  obtain ⟨H, hH⟩ : ∃ H, H = s.heap := ⟨_, rfl⟩
  have hS : va_S A s.heap H [] := by rw [hH]; exact hS
  have hP : va_P (dC, dI) vwCl (wld_X2_hasNumber cI cJ cZ h_p0 ad_p0 p0_rowSize p0_waySize) H := by rw [hH]; exact hP
  suffices hG : W p l e ({ frames := 0, cells := 0, slots := 0, locals := 0 }) s m args below meth c H [] 0 0 (MQ below (q_X2_hasNumber dC dI cI cJ cZ h_p0 ad_p0 p0_rowSize p0_waySize post A) args s 0 0 A) (F0 m 0 ls []) by rw [hH] at hG; exact hG
  clear hH
  refine lv_iload_n hx hb dX2_hasNumber_0 rfl (lv_at hl 1 rfl) ?_
  refine lv_if_lt (tgt := 16) hx hb dX2_hasNumber_1 (by decide) (fun c1 => ?_) (fun c2 => ?_)
  · have hw := hw.1 c1
    refine lv_iconst (v := 0) hx hb dX2_hasNumber_16 (by decide) ?_
    exact x_zret (w1 := fun (u : Unit) => (wld_X2_hasNumber cI cJ cZ h_p0 ad_p0 p0_rowSize p0_waySize)) hx hb hr hlocks (by decide) () hw hP hD hS dX2_hasNumber_17
  · have hw := hw.2 c2
    refine lv_iload_n hx hb dX2_hasNumber_4 rfl (lv_at hl 1 rfl) ?_
    refine lv_aload_n hx hb dX2_hasNumber_5 rfl (lv_at hl 0 rfl) ?_
    refine va_get (D := (dC, dI)) (ci := 2) (v := .int p0_rowSize) (C := RX2) (T := TX2) (N := 4) hx hb hts iX2 hown hK hP 0 rfl rfl 2 (by decide) (hts (.fieldLink RX2 18 "NetHouse$Hand" "rowSize" "I") (by decide +kernel)) (fun _ h9 => h9) rfl dX2_hasNumber_6 ?_
    refine lv_icmp_ge (tgt := 16) hx hb dX2_hasNumber_9 (by decide) (fun c3 => ?_) (fun c4 => ?_)
    · have hw := hw.1 c3
      refine lv_iconst (v := 0) hx hb dX2_hasNumber_16 (by decide) ?_
      exact x_zret (w1 := fun (u : Unit) => (wld_X2_hasNumber cI cJ cZ h_p0 ad_p0 p0_rowSize p0_waySize)) hx hb hr hlocks (by decide) () hw hP hD hS dX2_hasNumber_17
    · have hw := hw.2 c4
      refine lv_iconst (v := 1) hx hb dX2_hasNumber_12 (by decide) ?_
      refine lv_goto (tgt := 17) hx hb dX2_hasNumber_13 (by decide) ?_
      exact x_zret (w1 := fun (u : Unit) => (wld_X2_hasNumber cI cJ cZ h_p0 ad_p0 p0_rowSize p0_waySize)) hx hb hr hlocks (by decide) () hw hP hD hS dX2_hasNumber_17
abbrev wld_X2_hasStretch (cI cJ cZ : ClassId) (h_p0 : Nat) (ad_p0 : Nat → Nat) (p0_rowSize : Int32) (p0_waySize : Int32) : va_W := [(h_p0, .inr (2, [.ref (ad_p0 0), .ref (ad_p0 1), .int p0_rowSize, .int p0_waySize]))]
abbrev q_X2_hasStretch (dC : Nat → ClassId) (dI : Nat → Nat → Nat) (cI cJ cZ : ClassId) (h_p0 : Nat) (ad_p0 : Nat → Nat) (p0_rowSize : Int32) (p0_waySize : Int32) (post : Int32 → Prop) (A : Nat → Prop) : Array Value → State → Outcome → State → Prop := va_Qi (fun r (u : Unit) => post r ) (fun (u : Unit) t => xPost (dC, dI) A (wld_X2_hasStretch cI cJ cZ h_p0 ad_p0 p0_rowSize p0_waySize) t) A
def w_X2_hasStretch (p0_rowSize : Int32) (a1 : Int32) (a2 : Int32) (post : Int32 → Prop) : Prop :=
  (a1 < 0 →
    (post (0 : Int32))) ∧
  (¬ a1 < 0 →
    (p0_rowSize < a1 →
      (post (0 : Int32))) ∧
    (¬ p0_rowSize < a1 →
      ((p0_rowSize - a1) < a2 →
        (post (0 : Int32))) ∧
      (¬ (p0_rowSize - a1) < a2 →
        (post (1 : Int32)))))
set_option maxHeartbeats 4000000 in
set_option maxRecDepth 100000 in
theorem c_X2_hasStretch {l : Launch} {dC : Nat → ClassId} {dI : Nat → Nat → Nat} {sz : Nat} {cI cJ cZ : ClassId} {h_p0 : Nat} {ad_p0 : Nat → Nat} {p0_rowSize : Int32} {p0_waySize : Int32} {a1 : Int32} {a2 : Int32} {post : Int32 → Prop} (hw : w_X2_hasStretch p0_rowSize a1 a2 post) : Met l yX2_hasStretch wsX2_hasStretch ({ frames := 0, cells := 0, slots := 0, locals := 0 }) (va_Pc [.ref h_p0, .int a1, .int a2] (xPre (dC, dI) cI cJ cZ (wld_X2_hasStretch cI cJ cZ h_p0 ad_p0 p0_rowSize p0_waySize) sz)) (q_X2_hasStretch dC dI cI cJ cZ h_p0 ad_p0 p0_rowSize p0_waySize post (va_A (wld_X2_hasStretch cI cJ cZ h_p0 ad_p0 p0_rowSize p0_waySize) sz)) 0 0 (va_A (wld_X2_hasStretch cI cJ cZ h_p0 ad_p0 p0_rowSize p0_waySize) sz) := by
  refine x_met (cc := cX2_hasStretch) (maxL := 3) (ret := (some .boolean)) (own := RX2) (Qc := fun A => (q_X2_hasStretch dC dI cI cJ cZ h_p0 ad_p0 p0_rowSize p0_waySize post A)) (by decide) rfl rfl (Nat.le_of_ble_eq_true rfl) ?_
  intro p e s m args below meth c A ls E0 hP hD hS hl
  obtain ⟨hx, hb, hr, hml, hown, hts, hlocks, hK, hA, n1, n2⟩ := id E0
  have iX2 : ∀ w ∈ u_ws RX2 TX2 4, w ∈ wsX2_hasStretch := fun w h => List.mem_cons_of_mem _ (List.mem_append_right _ h)
  have hS0 := hS
  have hl : lv_has ls 3 [(0, .ref h_p0), (1, .int a1), (2, .int a2)] := hl
  unfold w_X2_hasStretch at hw
  obtain ⟨H, hH⟩ : ∃ H, H = s.heap := ⟨_, rfl⟩
  have hS : va_S A s.heap H [] := by rw [hH]; exact hS
  have hP : va_P (dC, dI) vwCl (wld_X2_hasStretch cI cJ cZ h_p0 ad_p0 p0_rowSize p0_waySize) H := by rw [hH]; exact hP
  suffices hG : W p l e ({ frames := 0, cells := 0, slots := 0, locals := 0 }) s m args below meth c H [] 0 0 (MQ below (q_X2_hasStretch dC dI cI cJ cZ h_p0 ad_p0 p0_rowSize p0_waySize post A) args s 0 0 A) (F0 m 0 ls []) by rw [hH] at hG; exact hG
  clear hH
  refine lv_iload_n hx hb dX2_hasStretch_0 rfl (lv_at hl 1 rfl) ?_
  refine lv_if_lt (tgt := 26) hx hb dX2_hasStretch_1 (by decide) (fun c1 => ?_) (fun c2 => ?_)
  · have hw := hw.1 c1
    refine lv_iconst (v := 0) hx hb dX2_hasStretch_26 (by decide) ?_
    exact x_zret (w1 := fun (u : Unit) => (wld_X2_hasStretch cI cJ cZ h_p0 ad_p0 p0_rowSize p0_waySize)) hx hb hr hlocks (by decide) () hw hP hD hS dX2_hasStretch_27
  · have hw := hw.2 c2
    refine lv_iload_n hx hb dX2_hasStretch_4 rfl (lv_at hl 1 rfl) ?_
    refine lv_aload_n hx hb dX2_hasStretch_5 rfl (lv_at hl 0 rfl) ?_
    refine va_get (D := (dC, dI)) (ci := 2) (v := .int p0_rowSize) (C := RX2) (T := TX2) (N := 4) hx hb hts iX2 hown hK hP 0 rfl rfl 2 (by decide) (hts (.fieldLink RX2 18 "NetHouse$Hand" "rowSize" "I") (by decide +kernel)) (fun _ h9 => h9) rfl dX2_hasStretch_6 ?_
    refine lv_icmp_gt (tgt := 26) hx hb dX2_hasStretch_9 (by decide) (fun c3 => ?_) (fun c4 => ?_)
    · have hw := hw.1 c3
      refine lv_iconst (v := 0) hx hb dX2_hasStretch_26 (by decide) ?_
      exact x_zret (w1 := fun (u : Unit) => (wld_X2_hasStretch cI cJ cZ h_p0 ad_p0 p0_rowSize p0_waySize)) hx hb hr hlocks (by decide) () hw hP hD hS dX2_hasStretch_27
    · have hw := hw.2 c4
      refine lv_iload_n hx hb dX2_hasStretch_12 rfl (lv_at hl 2 rfl) ?_
      refine lv_aload_n hx hb dX2_hasStretch_13 rfl (lv_at hl 0 rfl) ?_
      refine va_get (D := (dC, dI)) (ci := 2) (v := .int p0_rowSize) (C := RX2) (T := TX2) (N := 4) hx hb hts iX2 hown hK hP 0 rfl rfl 2 (by decide) (hts (.fieldLink RX2 18 "NetHouse$Hand" "rowSize" "I") (by decide +kernel)) (fun _ h9 => h9) rfl dX2_hasStretch_14 ?_
      refine lv_iload_n hx hb dX2_hasStretch_17 rfl (lv_at hl 1 rfl) ?_
      refine lv_isub hx hb dX2_hasStretch_18 ?_
      refine lv_icmp_gt (tgt := 26) hx hb dX2_hasStretch_19 (by decide) (fun c5 => ?_) (fun c6 => ?_)
      · have hw := hw.1 c5
        refine lv_iconst (v := 0) hx hb dX2_hasStretch_26 (by decide) ?_
        exact x_zret (w1 := fun (u : Unit) => (wld_X2_hasStretch cI cJ cZ h_p0 ad_p0 p0_rowSize p0_waySize)) hx hb hr hlocks (by decide) () hw hP hD hS dX2_hasStretch_27
      · have hw := hw.2 c6
        refine lv_iconst (v := 1) hx hb dX2_hasStretch_22 (by decide) ?_
        refine lv_goto (tgt := 27) hx hb dX2_hasStretch_23 (by decide) ?_
        exact x_zret (w1 := fun (u : Unit) => (wld_X2_hasStretch cI cJ cZ h_p0 ad_p0 p0_rowSize p0_waySize)) hx hb hr hlocks (by decide) () hw hP hD hS dX2_hasStretch_27
abbrev wld_X2_numberFor (cI cJ cZ : ClassId) (h_p0 : Nat) (ad_p0 : Nat → Nat) (p0_rowSize : Int32) (p0_waySize : Int32) (p0_row : Nat → Int32) : va_W := [(h_p0, .inr (2, [.ref (ad_p0 0), .ref (ad_p0 1), .int p0_rowSize, .int p0_waySize])), ((ad_p0 0), .inl (cI, 16, .inl p0_row))]
abbrev q_X2_numberFor (dC : Nat → ClassId) (dI : Nat → Nat → Nat) (cI cJ cZ : ClassId) (h_p0 : Nat) (ad_p0 : Nat → Nat) (p0_rowSize : Int32) (p0_waySize : Int32) (p0_row : Nat → Int32) (post : Int32 → Prop) (A : Nat → Prop) : Array Value → State → Outcome → State → Prop := va_Qi (fun r (u : Unit) => post r ) (fun (u : Unit) t => xPost (dC, dI) A (wld_X2_numberFor cI cJ cZ h_p0 ad_p0 p0_rowSize p0_waySize p0_row) t) A
def w_X2_numberFor (p0_rowSize : Int32) (p0_row : Nat → Int32) (a1 : Int32) (post : Int32 → Prop) : Prop :=
  w_X2_hasNumber p0_rowSize a1 (fun r1 =>
  (r1 = 0 →
    (post (0 : Int32))) ∧
  (¬ r1 = 0 →
    vp_in a1 16 ∧
    (post (p0_row a1.toNatClampNeg))))
set_option maxHeartbeats 4000000 in
set_option maxRecDepth 100000 in
theorem c_X2_numberFor {l : Launch} {dC : Nat → ClassId} {dI : Nat → Nat → Nat} {sz : Nat} {cI cJ cZ : ClassId} {h_p0 : Nat} {ad_p0 : Nat → Nat} {p0_rowSize : Int32} {p0_waySize : Int32} {p0_row : Nat → Int32} {a1 : Int32} {post : Int32 → Prop} (hw : w_X2_numberFor p0_rowSize p0_row a1 post) : Met l yX2_numberFor wsX2_numberFor ({ frames := 1, cells := 0, slots := 0, locals := 21 }) (va_Pc [.ref h_p0, .int a1] (xPre (dC, dI) cI cJ cZ (wld_X2_numberFor cI cJ cZ h_p0 ad_p0 p0_rowSize p0_waySize p0_row) sz)) (q_X2_numberFor dC dI cI cJ cZ h_p0 ad_p0 p0_rowSize p0_waySize p0_row post (va_A (wld_X2_numberFor cI cJ cZ h_p0 ad_p0 p0_rowSize p0_waySize p0_row) sz)) 0 0 (va_A (wld_X2_numberFor cI cJ cZ h_p0 ad_p0 p0_rowSize p0_waySize p0_row) sz) := by
  refine x_met (cc := cX2_numberFor) (maxL := 2) (ret := (some .int)) (own := RX2) (Qc := fun A => (q_X2_numberFor dC dI cI cJ cZ h_p0 ad_p0 p0_rowSize p0_waySize p0_row post A)) (by decide) rfl rfl (Nat.le_of_ble_eq_true rfl) ?_
  intro p e s m args below meth c A ls E0 hP hD hS hl
  obtain ⟨hx, hb, hr, hml, hown, hts, hlocks, hK, hA, n1, n2⟩ := id E0
  have iX2 : ∀ w ∈ u_ws RX2 TX2 4, w ∈ wsX2_numberFor := fun w h => List.mem_cons_of_mem _ (List.mem_append_right _ h)
  have hS0 := hS
  have hl : lv_has ls 2 [(0, .ref h_p0), (1, .int a1)] := hl
  unfold w_X2_numberFor at hw
  obtain ⟨H, hH⟩ : ∃ H, H = s.heap := ⟨_, rfl⟩
  have hS : va_S A s.heap H [] := by rw [hH]; exact hS
  have hP : va_P (dC, dI) vwCl (wld_X2_numberFor cI cJ cZ h_p0 ad_p0 p0_rowSize p0_waySize p0_row) H := by rw [hH]; exact hP
  suffices hG : W p l e ({ frames := 1, cells := 0, slots := 0, locals := 21 }) s m args below meth c H [] 0 0 (MQ below (q_X2_numberFor dC dI cI cJ cZ h_p0 ad_p0 p0_rowSize p0_waySize p0_row post A) args s 0 0 A) (F0 m 0 ls []) by rw [hH] at hG; exact hG
  clear hH
  refine lv_aload_n hx hb dX2_numberFor_0 rfl (lv_at hl 0 rfl) ?_
  refine lv_iload_n hx hb dX2_numberFor_1 rfl (lv_at hl 1 rfl) ?_
  obtain ⟨hPc, hDc⟩ := x_sub (wc := (wld_X2_hasNumber cI cJ cZ h_p0 ad_p0 p0_rowSize p0_waySize)) hP hD [0] (n := 2) rfl rfl (by decide +kernel)
  refine x_calli (ws' := fun (u : Unit) => (wld_X2_numberFor cI cJ cZ h_p0 ad_p0 p0_rowSize p0_waySize p0_row)) hP hD hS hA [0] [1] [1, 0] (n := 2) (k := 1) rfl (fun _ => rfl) rfl (by decide +kernel) (fun _ => rfl) (va_runV (As := [.int a1]) (rest := []) ⟨hx, hb, hml, hown, hts⟩ (c_X2_hasNumber (l := l) (dC := dC) (dI := dI) (cI := cI) (cJ := cJ) (cZ := cZ) (sz := H.size) (h_p0 := h_p0) (ad_p0 := ad_p0) (p0_rowSize := p0_rowSize) (p0_waySize := p0_waySize) hw) (cwV 1 hts gX2_numberFor_X2_hasNumber rfl rfl rfl (by decide +kernel) ⟨Nat.le_of_ble_eq_true rfl, Nat.le_of_ble_eq_true rfl⟩) ⟨xPre_blind, va_recv hK hP (ci := 2) (q0 := 0) rfl rfl, xPre_at hK hPc hDc n1 n2⟩ rfl rfl hl.1 rfl (lv_room (Nat.le_of_ble_eq_true rfl)) dX2_numberFor_2 ⟨Nat.zero_le _, Nat.zero_le _⟩) (fun r1 u H locs hw hP hD hS => ?_)
  try dsimp only at hw
  have hP : va_P (dC, dI) vwCl (wld_X2_numberFor cI cJ cZ h_p0 ad_p0 p0_rowSize p0_waySize p0_row) H := hP
  have hD : va_D A (wld_X2_numberFor cI cJ cZ h_p0 ad_p0 p0_rowSize p0_waySize p0_row) := hD
  refine lv_if_eq (tgt := 17) hx hb dX2_numberFor_5 (by decide) (fun c2 => ?_) (fun c3 => ?_)
  · have hw := hw.1 c2
    refine lv_iconst (v := 0) hx hb dX2_numberFor_17 (by decide) ?_
    exact x_iret (w1 := fun (u : Unit) => (wld_X2_numberFor cI cJ cZ h_p0 ad_p0 p0_rowSize p0_waySize p0_row)) hx hb hr hlocks () hw hP hD hS dX2_numberFor_18
  · have hw := hw.2 c3
    refine lv_aload_n hx hb dX2_numberFor_8 rfl (lv_at hl 0 rfl) ?_
    refine va_get (D := (dC, dI)) (ci := 2) (v := .ref (ad_p0 0)) (C := RX2) (T := TX2) (N := 4) hx hb hts iX2 hown hK hP 0 rfl rfl 0 (by decide) (hts (.fieldLink RX2 9 "NetHouse$Hand" "row" "[I") (by decide +kernel)) (fun _ h9 => h9) rfl dX2_numberFor_9 ?_
    refine lv_iload_n hx hb dX2_numberFor_12 rfl (lv_at hl 1 rfl) ?_
    refine va_iald hx hb hK hP 1 0 rfl rfl hw.1 dX2_numberFor_13 ?_
    have hw := hw.2
    refine lv_goto (tgt := 18) hx hb dX2_numberFor_14 (by decide) ?_
    exact x_iret (w1 := fun (u : Unit) => (wld_X2_numberFor cI cJ cZ h_p0 ad_p0 p0_rowSize p0_waySize p0_row)) hx hb hr hlocks () hw hP hD hS dX2_numberFor_18
abbrev wld_X2_layBehind (cI cJ cZ : ClassId) (h_p0 : Nat) (ad_p0 : Nat → Nat) (p0_rowSize : Int32) (p0_waySize : Int32) (p0_way : Nat → Int32) : va_W := [(h_p0, .inr (2, [.ref (ad_p0 0), .ref (ad_p0 1), .int p0_rowSize, .int p0_waySize])), ((ad_p0 1), .inl (cI, 8000, .inl p0_way))]
abbrev q_X2_layBehind (dC : Nat → ClassId) (dI : Nat → Nat → Nat) (cI cJ cZ : ClassId) (h_p0 : Nat) (ad_p0 : Nat → Nat) (p0_rowSize : Int32) (p0_waySize : Int32) (p0_way : Nat → Int32) (post : (Int32) → (Nat → Int32) → Prop) (A : Nat → Prop) : Array Value → State → Outcome → State → Prop := va_Qv (fun (u : (Int32) × (Nat → Int32)) => post (u.1) (u.2)) (fun (u : (Int32) × (Nat → Int32)) t => xPost (dC, dI) A (wld_X2_layBehind cI cJ cZ h_p0 ad_p0 p0_rowSize (u.1) (u.2)) t) A
def w_X2_layBehind (p0_waySize : Int32) (p0_way : Nat → Int32) (a1 : Int32) (post : (Int32) → (Nat → Int32) → Prop) : Prop :=
  vp_in p0_waySize 8000 ∧
  ∀ x1 : Int32, x1 = (p0_waySize + (1 : Int32)) →
  (post x1 (upd p0_way p0_waySize.toNatClampNeg a1))
set_option maxHeartbeats 4000000 in
set_option maxRecDepth 100000 in
theorem c_X2_layBehind {l : Launch} {dC : Nat → ClassId} {dI : Nat → Nat → Nat} {sz : Nat} {cI cJ cZ : ClassId} {h_p0 : Nat} {ad_p0 : Nat → Nat} {p0_rowSize : Int32} {p0_waySize : Int32} {p0_way : Nat → Int32} {a1 : Int32} {post : (Int32) → (Nat → Int32) → Prop} (hw : w_X2_layBehind p0_waySize p0_way a1 post) : Met l yX2_layBehind wsX2_layBehind ({ frames := 0, cells := 0, slots := 0, locals := 0 }) (va_Pc [.ref h_p0, .int a1] (xPre (dC, dI) cI cJ cZ (wld_X2_layBehind cI cJ cZ h_p0 ad_p0 p0_rowSize p0_waySize p0_way) sz)) (q_X2_layBehind dC dI cI cJ cZ h_p0 ad_p0 p0_rowSize p0_waySize p0_way post (va_A (wld_X2_layBehind cI cJ cZ h_p0 ad_p0 p0_rowSize p0_waySize p0_way) sz)) 0 0 (va_A (wld_X2_layBehind cI cJ cZ h_p0 ad_p0 p0_rowSize p0_waySize p0_way) sz) := by
  refine x_met (cc := cX2_layBehind) (maxL := 2) (ret := none) (own := RX2) (Qc := fun A => (q_X2_layBehind dC dI cI cJ cZ h_p0 ad_p0 p0_rowSize p0_waySize p0_way post A)) (by decide) rfl rfl (Nat.le_of_ble_eq_true rfl) ?_
  intro p e s m args below meth c A ls E0 hP hD hS hl
  obtain ⟨hx, hb, hr, hml, hown, hts, hlocks, hK, hA, n1, n2⟩ := id E0
  have iX2 : ∀ w ∈ u_ws RX2 TX2 4, w ∈ wsX2_layBehind := fun w h => List.mem_cons_of_mem _ (List.mem_append_right _ h)
  have hS0 := hS
  have hl : lv_has ls 2 [(0, .ref h_p0), (1, .int a1)] := hl
  unfold w_X2_layBehind at hw
  obtain ⟨H, hH⟩ : ∃ H, H = s.heap := ⟨_, rfl⟩
  have hS : va_S A s.heap H [] := by rw [hH]; exact hS
  have hP : va_P (dC, dI) vwCl (wld_X2_layBehind cI cJ cZ h_p0 ad_p0 p0_rowSize p0_waySize p0_way) H := by rw [hH]; exact hP
  suffices hG : W p l e ({ frames := 0, cells := 0, slots := 0, locals := 0 }) s m args below meth c H [] 0 0 (MQ below (q_X2_layBehind dC dI cI cJ cZ h_p0 ad_p0 p0_rowSize p0_waySize p0_way post A) args s 0 0 A) (F0 m 0 ls []) by rw [hH] at hG; exact hG
  clear hH
  refine lv_aload_n hx hb dX2_layBehind_0 rfl (lv_at hl 0 rfl) ?_
  refine va_get (D := (dC, dI)) (ci := 2) (v := .ref (ad_p0 1)) (C := RX2) (T := TX2) (N := 4) hx hb hts iX2 hown hK hP 0 rfl rfl 1 (by decide) (hts (.fieldLink RX2 15 "NetHouse$Hand" "way" "[I") (by decide +kernel)) (fun _ h9 => h9) rfl dX2_layBehind_1 ?_
  refine lv_aload_n hx hb dX2_layBehind_4 rfl (lv_at hl 0 rfl) ?_
  refine va_get (D := (dC, dI)) (ci := 2) (v := .int p0_waySize) (C := RX2) (T := TX2) (N := 4) hx hb hts iX2 hown hK hP 0 rfl rfl 3 (by decide) (hts (.fieldLink RX2 22 "NetHouse$Hand" "waySize" "I") (by decide +kernel)) (fun _ h9 => h9) rfl dX2_layBehind_5 ?_
  refine lv_iload_n hx hb dX2_layBehind_8 rfl (lv_at hl 1 rfl) ?_
  refine va_iast hx hb hK hP hD hS 1 0 rfl rfl hw.1 dX2_layBehind_9 (fun H locs hP hD hS => ?_)
  have hw := hw.2
  have hP : va_P (dC, dI) vwCl (wld_X2_layBehind cI cJ cZ h_p0 ad_p0 p0_rowSize p0_waySize (upd p0_way p0_waySize.toNatClampNeg a1)) H := hP
  have hD : va_D A (wld_X2_layBehind cI cJ cZ h_p0 ad_p0 p0_rowSize p0_waySize (upd p0_way p0_waySize.toNatClampNeg a1)) := hD
  refine lv_aload_n hx hb dX2_layBehind_10 rfl (lv_at hl 0 rfl) ?_
  refine lv_dup hx hb dX2_layBehind_11 rfl ?_
  refine va_get (D := (dC, dI)) (ci := 2) (v := .int p0_waySize) (C := RX2) (T := TX2) (N := 4) hx hb hts iX2 hown hK hP 0 rfl rfl 3 (by decide) (hts (.fieldLink RX2 22 "NetHouse$Hand" "waySize" "I") (by decide +kernel)) (fun _ h9 => h9) rfl dX2_layBehind_12 ?_
  refine lv_iconst (v := 1) hx hb dX2_layBehind_15 (by decide) ?_
  refine lv_iadd hx hb dX2_layBehind_16 ?_
  refine lv_topi (fun x1 ex1 => ?_)
  have hw := hw x1 ex1
  refine va_put (D := (dC, dI)) (ci := 2) (v := .int x1) (ty := .int) (C := RX2) (T := TX2) (N := 4) hx hb hts iX2 tyX2 tyX2_ok nmX2 hown hK hP hD hS 0 rfl rfl 3 (by decide) (hts (.fieldLink RX2 22 "NetHouse$Hand" "waySize" "I") (by decide +kernel)) (fun _ h9 => h9) rfl (by decide +kernel) rfl rfl (Nat.le_of_ble_eq_true rfl) dX2_layBehind_17 (fun H locs hP hD hS => ?_)
  have hP : va_P (dC, dI) vwCl (wld_X2_layBehind cI cJ cZ h_p0 ad_p0 p0_rowSize x1 (upd p0_way p0_waySize.toNatClampNeg a1)) H := hP
  have hD : va_D A (wld_X2_layBehind cI cJ cZ h_p0 ad_p0 p0_rowSize x1 (upd p0_way p0_waySize.toNatClampNeg a1)) := hD
  exact x_vret (w1 := fun (u : (Int32) × (Nat → Int32)) => (wld_X2_layBehind cI cJ cZ h_p0 ad_p0 p0_rowSize (u.1) (u.2))) hx hb hr hlocks (x1, (upd p0_way p0_waySize.toNatClampNeg a1)) hw hP hD hS dX2_layBehind_20
abbrev wld_X3_becomeOneAt (cI cJ cZ : ClassId) (h_p0 : Nat) (ad_p0 : Nat → Nat) (p0_many : Nat → Int32) : va_W := [(h_p0, .inr (3, [.ref (ad_p0 0), .ref (ad_p0 1)])), ((ad_p0 0), .inl (cI, 16, .inl p0_many))]
abbrev q_X3_becomeOneAt (dC : Nat → ClassId) (dI : Nat → Nat → Nat) (cI cJ cZ : ClassId) (h_p0 : Nat) (ad_p0 : Nat → Nat) (p0_many : Nat → Int32) (post : (Nat → Int32) → Prop) (A : Nat → Prop) : Array Value → State → Outcome → State → Prop := va_Qv (fun (u : (Nat → Int32)) => post u) (fun (u : (Nat → Int32)) t => xPost (dC, dI) A (wld_X3_becomeOneAt cI cJ cZ h_p0 ad_p0 u) t) A
def w_X3_becomeOneAt (p0_many : Nat → Int32) (a1 : Int32) (post : (Nat → Int32) → Prop) : Prop :=
  w_J7_fill_53178 16 p0_many (0 : Int32) (fun y1 =>
  vp_in a1 16 ∧
  (post (upd y1 a1.toNatClampNeg (1 : Int32))))
set_option maxHeartbeats 4000000 in
set_option maxRecDepth 100000 in
theorem c_X3_becomeOneAt {l : Launch} {dC : Nat → ClassId} {dI : Nat → Nat → Nat} {sz : Nat} {cI cJ cZ : ClassId} {h_p0 : Nat} {ad_p0 : Nat → Nat} {p0_many : Nat → Int32} {a1 : Int32} {post : (Nat → Int32) → Prop} (hw : w_X3_becomeOneAt p0_many a1 post) : Met l yX3_becomeOneAt wsX3_becomeOneAt ({ frames := 1, cells := 0, slots := 0, locals := 23 }) (va_Pc [.ref h_p0, .int a1] (xPre (dC, dI) cI cJ cZ (wld_X3_becomeOneAt cI cJ cZ h_p0 ad_p0 p0_many) sz)) (q_X3_becomeOneAt dC dI cI cJ cZ h_p0 ad_p0 p0_many post (va_A (wld_X3_becomeOneAt cI cJ cZ h_p0 ad_p0 p0_many) sz)) 0 0 (va_A (wld_X3_becomeOneAt cI cJ cZ h_p0 ad_p0 p0_many) sz) := by
  refine x_met (cc := cX3_becomeOneAt) (maxL := 2) (ret := none) (own := RX3) (Qc := fun A => (q_X3_becomeOneAt dC dI cI cJ cZ h_p0 ad_p0 p0_many post A)) (by decide) rfl rfl (Nat.le_of_ble_eq_true rfl) ?_
  intro p e s m args below meth c A ls E0 hP hD hS hl
  obtain ⟨hx, hb, hr, hml, hown, hts, hlocks, hK, hA, n1, n2⟩ := id E0
  have iX3 : ∀ w ∈ u_ws RX3 TX3 2, w ∈ wsX3_becomeOneAt := fun w h => List.mem_cons_of_mem _ (List.mem_append_right _ h)
  have hS0 := hS
  have hl : lv_has ls 2 [(0, .ref h_p0), (1, .int a1)] := hl
  unfold w_X3_becomeOneAt at hw
  obtain ⟨H, hH⟩ : ∃ H, H = s.heap := ⟨_, rfl⟩
  have hS : va_S A s.heap H [] := by rw [hH]; exact hS
  have hP : va_P (dC, dI) vwCl (wld_X3_becomeOneAt cI cJ cZ h_p0 ad_p0 p0_many) H := by rw [hH]; exact hP
  suffices hG : W p l e ({ frames := 1, cells := 0, slots := 0, locals := 23 }) s m args below meth c H [] 0 0 (MQ below (q_X3_becomeOneAt dC dI cI cJ cZ h_p0 ad_p0 p0_many post A) args s 0 0 A) (F0 m 0 ls []) by rw [hH] at hG; exact hG
  clear hH
  refine lv_aload_n hx hb dX3_becomeOneAt_0 rfl (lv_at hl 0 rfl) ?_
  refine va_get (D := (dC, dI)) (ci := 3) (v := .ref (ad_p0 0)) (C := RX3) (T := TX3) (N := 2) hx hb hts iX3 hown hK hP 0 rfl rfl 0 (by decide) (hts (.fieldLink RX3 9 "NetHouse$Holding" "many" "[I") (by decide +kernel)) (fun _ h9 => h9) rfl dX3_becomeOneAt_1 ?_
  refine lv_iconst (v := 0) hx hb dX3_becomeOneAt_4 (by decide) ?_
  obtain ⟨hPc, hDc⟩ := x_sub (wc := (wld_J7_fill_53178 cI cJ cZ (ad_p0 0) 16 p0_many)) hP hD [1] (n := 2) rfl rfl (by decide +kernel)
  refine x_callv (ws' := fun (u : (Nat → Int32)) => (wld_X3_becomeOneAt cI cJ cZ h_p0 ad_p0 u)) hP hD hS hA [1] [0] [0, 1] (n := 2) (k := 1) rfl (fun _ => rfl) rfl (by decide +kernel) (fun _ => rfl) (va_runS (As := [.ref (ad_p0 0), .int (0 : Int32)]) (rest := []) ⟨hx, hb, hml, hown, hts⟩ (c_J7_fill_53178 (l := l) (dC := dC) (dI := dI) (cI := cI) (cJ := cJ) (cZ := cZ) (sz := H.size) (h_p0 := (ad_p0 0)) (n_p0 := 16) (p0 := p0_many) hw) (va_cwS 2 hts gX3_becomeOneAt_J7_fill_53178 rfl rfl rfl (by decide +kernel) ⟨Nat.le_of_ble_eq_true rfl, Nat.le_of_ble_eq_true rfl⟩) ⟨xPre_blind, xPre_at hK hPc hDc n1 n2⟩ rfl rfl hl.1 rfl (lv_room (Nat.le_of_ble_eq_true rfl)) dX3_becomeOneAt_5 ⟨Nat.zero_le _, Nat.zero_le _⟩) (fun u H locs hw hP hD hS => ?_)
  obtain ⟨y1, rfl⟩ : ∃ z, z = u := ⟨_, rfl⟩
  try dsimp only at hw
  have hP : va_P (dC, dI) vwCl (wld_X3_becomeOneAt cI cJ cZ h_p0 ad_p0 y1) H := hP
  have hD : va_D A (wld_X3_becomeOneAt cI cJ cZ h_p0 ad_p0 y1) := hD
  refine lv_aload_n hx hb dX3_becomeOneAt_8 rfl (lv_at hl 0 rfl) ?_
  refine va_get (D := (dC, dI)) (ci := 3) (v := .ref (ad_p0 0)) (C := RX3) (T := TX3) (N := 2) hx hb hts iX3 hown hK hP 0 rfl rfl 0 (by decide) (hts (.fieldLink RX3 9 "NetHouse$Holding" "many" "[I") (by decide +kernel)) (fun _ h9 => h9) rfl dX3_becomeOneAt_9 ?_
  refine lv_iload_n hx hb dX3_becomeOneAt_12 rfl (lv_at hl 1 rfl) ?_
  refine lv_iconst (v := 1) hx hb dX3_becomeOneAt_13 (by decide) ?_
  refine va_iast hx hb hK hP hD hS 1 0 rfl rfl hw.1 dX3_becomeOneAt_14 (fun H locs hP hD hS => ?_)
  have hw := hw.2
  have hP : va_P (dC, dI) vwCl (wld_X3_becomeOneAt cI cJ cZ h_p0 ad_p0 (upd y1 a1.toNatClampNeg (1 : Int32))) H := hP
  have hD : va_D A (wld_X3_becomeOneAt cI cJ cZ h_p0 ad_p0 (upd y1 a1.toNatClampNeg (1 : Int32))) := hD
  exact x_vret (w1 := fun (u : (Nat → Int32)) => (wld_X3_becomeOneAt cI cJ cZ h_p0 ad_p0 u)) hx hb hr hlocks ((upd y1 a1.toNatClampNeg (1 : Int32))) hw hP hD hS dX3_becomeOneAt_15
abbrev wld_X3_kindAt (cI cJ cZ : ClassId) (h_p0 : Nat) (ad_p0 : Nat → Nat) (p0_things : Nat → Int64) : va_W := [(h_p0, .inr (3, [.ref (ad_p0 0), .ref (ad_p0 1)])), ((ad_p0 1), .inl (cJ, 16, .inr (.inl p0_things)))]
abbrev q_X3_kindAt (dC : Nat → ClassId) (dI : Nat → Nat → Nat) (cI cJ cZ : ClassId) (h_p0 : Nat) (ad_p0 : Nat → Nat) (p0_things : Nat → Int64) (post : Int32 → Prop) (A : Nat → Prop) : Array Value → State → Outcome → State → Prop := va_Qi (fun r (u : Unit) => post r ) (fun (u : Unit) t => xPost (dC, dI) A (wld_X3_kindAt cI cJ cZ h_p0 ad_p0 p0_things) t) A
def w_X3_kindAt (p0_things : Nat → Int64) (a1 : Int32) (a2 : Int32) (post : Int32 → Prop) : Prop :=
  vp_in a1 16 ∧
  w_X3_kindIn (p0_things a1.toNatClampNeg) a2 (fun r1 =>
  (post r1))
set_option maxHeartbeats 4000000 in
set_option maxRecDepth 100000 in
theorem c_X3_kindAt {l : Launch} {dC : Nat → ClassId} {dI : Nat → Nat → Nat} {sz : Nat} {cI cJ cZ : ClassId} {h_p0 : Nat} {ad_p0 : Nat → Nat} {p0_things : Nat → Int64} {a1 : Int32} {a2 : Int32} {post : Int32 → Prop} (hw : w_X3_kindAt p0_things a1 a2 post) : Met l yX3_kindAt wsX3_kindAt ({ frames := 1, cells := 0, slots := 0, locals := 22 }) (va_Pc [.ref h_p0, .int a1, .int a2] (xPre (dC, dI) cI cJ cZ (wld_X3_kindAt cI cJ cZ h_p0 ad_p0 p0_things) sz)) (q_X3_kindAt dC dI cI cJ cZ h_p0 ad_p0 p0_things post (va_A (wld_X3_kindAt cI cJ cZ h_p0 ad_p0 p0_things) sz)) 0 0 (va_A (wld_X3_kindAt cI cJ cZ h_p0 ad_p0 p0_things) sz) := by
  refine x_met (cc := cX3_kindAt) (maxL := 3) (ret := (some .int)) (own := RX3) (Qc := fun A => (q_X3_kindAt dC dI cI cJ cZ h_p0 ad_p0 p0_things post A)) (by decide) rfl rfl (Nat.le_of_ble_eq_true rfl) ?_
  intro p e s m args below meth c A ls E0 hP hD hS hl
  obtain ⟨hx, hb, hr, hml, hown, hts, hlocks, hK, hA, n1, n2⟩ := id E0
  have iX3 : ∀ w ∈ u_ws RX3 TX3 2, w ∈ wsX3_kindAt := fun w h => List.mem_cons_of_mem _ (List.mem_append_right _ h)
  have hS0 := hS
  have hl : lv_has ls 3 [(0, .ref h_p0), (1, .int a1), (2, .int a2)] := hl
  unfold w_X3_kindAt at hw
  obtain ⟨H, hH⟩ : ∃ H, H = s.heap := ⟨_, rfl⟩
  have hS : va_S A s.heap H [] := by rw [hH]; exact hS
  have hP : va_P (dC, dI) vwCl (wld_X3_kindAt cI cJ cZ h_p0 ad_p0 p0_things) H := by rw [hH]; exact hP
  suffices hG : W p l e ({ frames := 1, cells := 0, slots := 0, locals := 22 }) s m args below meth c H [] 0 0 (MQ below (q_X3_kindAt dC dI cI cJ cZ h_p0 ad_p0 p0_things post A) args s 0 0 A) (F0 m 0 ls []) by rw [hH] at hG; exact hG
  clear hH
  refine lv_aload_n hx hb dX3_kindAt_0 rfl (lv_at hl 0 rfl) ?_
  refine va_get (D := (dC, dI)) (ci := 3) (v := .ref (ad_p0 1)) (C := RX3) (T := TX3) (N := 2) hx hb hts iX3 hown hK hP 0 rfl rfl 1 (by decide) (hts (.fieldLink RX3 15 "NetHouse$Holding" "things" "[J") (by decide +kernel)) (fun _ h9 => h9) rfl dX3_kindAt_1 ?_
  refine lv_iload_n hx hb dX3_kindAt_4 rfl (lv_at hl 1 rfl) ?_
  refine va_lald hx hb hK hP 1 1 rfl rfl hw.1 dX3_kindAt_5 ?_
  have hw := hw.2
  refine lv_iload_n hx hb dX3_kindAt_6 rfl (lv_at hl 2 rfl) ?_
  obtain ⟨hPc, hDc⟩ := x_sub (wc := (wld_X3_kindIn cI cJ cZ )) hP hD [] (n := 2) rfl rfl (by decide +kernel)
  refine x_calli (ws' := fun (u : Unit) => (wld_X3_kindAt cI cJ cZ h_p0 ad_p0 p0_things)) hP hD hS hA [] [0, 1] [0, 1] (n := 2) (k := 0) rfl (fun _ => rfl) rfl (by decide +kernel) (fun _ => rfl) (va_runS (As := [.long (p0_things a1.toNatClampNeg), .int a2]) (rest := []) ⟨hx, hb, hml, hown, hts⟩ (c_X3_kindIn (l := l) (dC := dC) (dI := dI) (cI := cI) (cJ := cJ) (cZ := cZ) (sz := H.size) hw) (va_cwS 2 hts gX3_kindAt_X3_kindIn rfl rfl rfl (by decide +kernel) ⟨Nat.le_of_ble_eq_true rfl, Nat.le_of_ble_eq_true rfl⟩) ⟨xPre_blind, xPre_at hK hPc hDc n1 n2⟩ rfl rfl hl.1 rfl (lv_room (Nat.le_of_ble_eq_true rfl)) dX3_kindAt_7 ⟨Nat.zero_le _, Nat.zero_le _⟩) (fun r1 u H locs hw hP hD hS => ?_)
  try dsimp only at hw
  have hP : va_P (dC, dI) vwCl (wld_X3_kindAt cI cJ cZ h_p0 ad_p0 p0_things) H := hP
  have hD : va_D A (wld_X3_kindAt cI cJ cZ h_p0 ad_p0 p0_things) := hD
  exact x_iret (w1 := fun (u : Unit) => (wld_X3_kindAt cI cJ cZ h_p0 ad_p0 p0_things)) hx hb hr hlocks () hw hP hD hS dX3_kindAt_10
abbrev wld_X3_hasSomethingIn (cI cJ cZ : ClassId) (h_p0 : Nat) (ad_p0 : Nat → Nat) (p0_many : Nat → Int32) : va_W := [(h_p0, .inr (3, [.ref (ad_p0 0), .ref (ad_p0 1)])), ((ad_p0 0), .inl (cI, 16, .inl p0_many))]
abbrev q_X3_hasSomethingIn (dC : Nat → ClassId) (dI : Nat → Nat → Nat) (cI cJ cZ : ClassId) (h_p0 : Nat) (ad_p0 : Nat → Nat) (p0_many : Nat → Int32) (post : Int32 → Prop) (A : Nat → Prop) : Array Value → State → Outcome → State → Prop := va_Qi (fun r (u : Unit) => post r ) (fun (u : Unit) t => xPost (dC, dI) A (wld_X3_hasSomethingIn cI cJ cZ h_p0 ad_p0 p0_many) t) A
def w_X3_hasSomethingIn_L2b (v1 : Int32) (p0_many : Nat → Int32) (post : Int32 → Prop) (K : (Int32) → Prop) (rec : (Int32) → Prop) (v2 : Int32) : Prop :=
    ((16 : Int32) ≤ v2 →
      K v2) ∧
    (¬ (16 : Int32) ≤ v2 →
      ((v1 &&& ((1 : Int32) <<< (v2 &&& 31))) = 0 →
        ∀ x5 : Int32, x5 = v2 + (1 : Int32) →
        rec x5) ∧
      (¬ (v1 &&& ((1 : Int32) <<< (v2 &&& 31))) = 0 →
        vp_in v2 16 ∧
        ((p0_many v2.toNatClampNeg) ≤ 0 →
          ∀ x8 : Int32, x8 = v2 + (1 : Int32) →
          rec x8) ∧
        (¬ (p0_many v2.toNatClampNeg) ≤ 0 →
          (post (1 : Int32)))))
def w_X3_hasSomethingIn_L2 (v1 : Int32) (p0_many : Nat → Int32) (post : Int32 → Prop) (K : (Int32) → Prop) : Nat → (Int32) → Prop
  | 0, _ => False
  | n + 1, v2 => w_X3_hasSomethingIn_L2b v1 p0_many post K (w_X3_hasSomethingIn_L2 v1 p0_many post K n) v2
def w_X3_hasSomethingIn (p0_many : Nat → Int32) (a1 : Int32) (post : Int32 → Prop) : Prop :=
  ∃ n : Nat, w_X3_hasSomethingIn_L2 a1 p0_many post (fun v10 =>
      (post (0 : Int32))) n (0 : Int32)
set_option maxHeartbeats 4000000 in
set_option maxRecDepth 100000 in
theorem c_X3_hasSomethingIn_L2 {p : Program} {l : Launch} {e : Env} {s : State} {m : MethodId} {args : Array Value} {below : List Frame} {meth : Method} {c : Code} {dC : Nat → ClassId} {dI : Nat → Nat → Nat} {A : Nat → Prop} {cI cJ cZ : ClassId} {h_p0 : Nat} {ad_p0 : Nat → Nat} {p0_many : Nat → Int32} {v1 : Int32}  {post : Int32 → Prop} {K : (Int32) → Prop} (E0 : xEnv p s m args meth c cX3_hasSomethingIn (some .boolean) 3 RX3 wsX3_hasSomethingIn (dC, dI) cI cJ cZ A) (hk : ∀ (v2 : Int32) (H : Heap) (locs : List Loc) (ls : Array Slot), K v2 → va_P (dC, dI) vwCl (wld_X3_hasSomethingIn cI cJ cZ h_p0 ad_p0 p0_many) H → va_D A (wld_X3_hasSomethingIn cI cJ cZ h_p0 ad_p0 p0_many) → va_S A s.heap H locs → lv_has ls 3 [] → W p l e ({ frames := 0, cells := 0, slots := 0, locals := 0 }) s m args below meth c H locs 0 0 (MQ below (q_X3_hasSomethingIn dC dI cI cJ cZ h_p0 ad_p0 p0_many post A) args s 0 0 A) (F0 m 33 ls [])) : ∀ (n : Nat) (v2 : Int32), w_X3_hasSomethingIn_L2 v1 p0_many post K n v2 → ∀ (H : Heap) (locs : List Loc) (ls : Array Slot), va_P (dC, dI) vwCl (wld_X3_hasSomethingIn cI cJ cZ h_p0 ad_p0 p0_many) H → va_D A (wld_X3_hasSomethingIn cI cJ cZ h_p0 ad_p0 p0_many) → va_S A s.heap H locs → lv_has ls 3 [(0, .ref h_p0), (1, .int v1), (2, .int v2)] → W p l e ({ frames := 0, cells := 0, slots := 0, locals := 0 }) s m args below meth c H locs 0 0 (MQ below (q_X3_hasSomethingIn dC dI cI cJ cZ h_p0 ad_p0 p0_many post A) args s 0 0 A) (F0 m 2 ls []) := by
  obtain ⟨hx, hb, hr, hml, hown, hts, hlocks, hK, hA, n1, n2⟩ := id E0
  have iX3 : ∀ w ∈ u_ws RX3 TX3 2, w ∈ wsX3_hasSomethingIn := fun w h => List.mem_cons_of_mem _ (List.mem_append_right _ h)
  intro n
  induction n with
  | zero => intro v2 hw; exact hw.elim
  | succ n ih =>
    intro v2 hw H locs ls hP hD hS hl
    have hw : w_X3_hasSomethingIn_L2b v1 p0_many post K (w_X3_hasSomethingIn_L2 v1 p0_many post K n) v2 := hw
    unfold w_X3_hasSomethingIn_L2b at hw
    refine lv_iload_n hx hb dX3_hasSomethingIn_2 rfl (lv_at hl 2 rfl) ?_
    refine lv_bipush (v := 16) hx hb dX3_hasSomethingIn_3 (by decide) ?_
    refine lv_icmp_ge (tgt := 33) hx hb dX3_hasSomethingIn_5 (by decide) (fun c1 => ?_) (fun c2 => ?_)
    · have hw := hw.1 c1
      exact hk _ _ _ _ hw hP hD hS (lv_sub hl [] rfl)
    · have hw := hw.2 c2
      refine lv_iload_n hx hb dX3_hasSomethingIn_8 rfl (lv_at hl 1 rfl) ?_
      refine lv_iconst (v := 1) hx hb dX3_hasSomethingIn_9 (by decide) ?_
      refine lv_iload_n hx hb dX3_hasSomethingIn_10 rfl (lv_at hl 2 rfl) ?_
      refine lv_ishl hx hb dX3_hasSomethingIn_11 ?_
      refine lv_iand hx hb dX3_hasSomethingIn_12 ?_
      refine lv_if_eq (tgt := 27) hx hb dX3_hasSomethingIn_13 (by decide) (fun c3 => ?_) (fun c4 => ?_)
      · have hw := hw.1 c3
        obtain ⟨x5, ex5⟩ : ∃ y : Int32, y = v2 + (1 : Int32) := ⟨_, rfl⟩
        have hw := hw x5 ex5
        refine lv_iinc (v := x5) (lv' := [(2, .int x5), (0, .ref h_p0), (1, .int v1)]) hx hb dX3_hasSomethingIn_27 hl (k := 2) rfl (by rw [ex5]; rfl) (by decide) rfl (fun ls hl => ?_)
        refine lv_goto (tgt := 2) hx hb dX3_hasSomethingIn_30 (by decide) ?_
        exact ih _ hw _ _ _ hP hD hS (lv_sub hl [1, 2, 0] rfl)
      · have hw := hw.2 c4
        refine lv_aload_n hx hb dX3_hasSomethingIn_16 rfl (lv_at hl 0 rfl) ?_
        refine va_get (D := (dC, dI)) (ci := 3) (v := .ref (ad_p0 0)) (C := RX3) (T := TX3) (N := 2) hx hb hts iX3 hown hK hP 0 rfl rfl 0 (by decide) (hts (.fieldLink RX3 9 "NetHouse$Holding" "many" "[I") (by decide +kernel)) (fun _ h9 => h9) rfl dX3_hasSomethingIn_17 ?_
        refine lv_iload_n hx hb dX3_hasSomethingIn_20 rfl (lv_at hl 2 rfl) ?_
        refine va_iald hx hb hK hP 1 0 rfl rfl hw.1 dX3_hasSomethingIn_21 ?_
        have hw := hw.2
        refine lv_if_le (tgt := 27) hx hb dX3_hasSomethingIn_22 (by decide) (fun c6 => ?_) (fun c7 => ?_)
        · have hw := hw.1 c6
          obtain ⟨x8, ex8⟩ : ∃ y : Int32, y = v2 + (1 : Int32) := ⟨_, rfl⟩
          have hw := hw x8 ex8
          refine lv_iinc (v := x8) (lv' := [(2, .int x8), (0, .ref h_p0), (1, .int v1)]) hx hb dX3_hasSomethingIn_27 hl (k := 2) rfl (by rw [ex8]; rfl) (by decide) rfl (fun ls hl => ?_)
          refine lv_goto (tgt := 2) hx hb dX3_hasSomethingIn_30 (by decide) ?_
          exact ih _ hw _ _ _ hP hD hS (lv_sub hl [1, 2, 0] rfl)
        · have hw := hw.2 c7
          refine lv_iconst (v := 1) hx hb dX3_hasSomethingIn_25 (by decide) ?_
          exact x_zret (w1 := fun (u : Unit) => (wld_X3_hasSomethingIn cI cJ cZ h_p0 ad_p0 p0_many)) hx hb hr hlocks (by decide) () hw hP hD hS dX3_hasSomethingIn_26
set_option maxHeartbeats 4000000 in
set_option maxRecDepth 100000 in
theorem c_X3_hasSomethingIn {l : Launch} {dC : Nat → ClassId} {dI : Nat → Nat → Nat} {sz : Nat} {cI cJ cZ : ClassId} {h_p0 : Nat} {ad_p0 : Nat → Nat} {p0_many : Nat → Int32} {a1 : Int32} {post : Int32 → Prop} (hw : w_X3_hasSomethingIn p0_many a1 post) : Met l yX3_hasSomethingIn wsX3_hasSomethingIn ({ frames := 0, cells := 0, slots := 0, locals := 0 }) (va_Pc [.ref h_p0, .int a1] (xPre (dC, dI) cI cJ cZ (wld_X3_hasSomethingIn cI cJ cZ h_p0 ad_p0 p0_many) sz)) (q_X3_hasSomethingIn dC dI cI cJ cZ h_p0 ad_p0 p0_many post (va_A (wld_X3_hasSomethingIn cI cJ cZ h_p0 ad_p0 p0_many) sz)) 0 0 (va_A (wld_X3_hasSomethingIn cI cJ cZ h_p0 ad_p0 p0_many) sz) := by
  refine x_met (cc := cX3_hasSomethingIn) (maxL := 3) (ret := (some .boolean)) (own := RX3) (Qc := fun A => (q_X3_hasSomethingIn dC dI cI cJ cZ h_p0 ad_p0 p0_many post A)) (by decide) rfl rfl (Nat.le_of_ble_eq_true rfl) ?_
  intro p e s m args below meth c A ls E0 hP hD hS hl
  obtain ⟨hx, hb, hr, hml, hown, hts, hlocks, hK, hA, n1, n2⟩ := id E0
  have iX3 : ∀ w ∈ u_ws RX3 TX3 2, w ∈ wsX3_hasSomethingIn := fun w h => List.mem_cons_of_mem _ (List.mem_append_right _ h)
  have hS0 := hS
  have hl : lv_has ls 3 [(0, .ref h_p0), (1, .int a1)] := hl
  unfold w_X3_hasSomethingIn at hw
  obtain ⟨H, hH⟩ : ∃ H, H = s.heap := ⟨_, rfl⟩
  have hS : va_S A s.heap H [] := by rw [hH]; exact hS
  have hP : va_P (dC, dI) vwCl (wld_X3_hasSomethingIn cI cJ cZ h_p0 ad_p0 p0_many) H := by rw [hH]; exact hP
  suffices hG : W p l e ({ frames := 0, cells := 0, slots := 0, locals := 0 }) s m args below meth c H [] 0 0 (MQ below (q_X3_hasSomethingIn dC dI cI cJ cZ h_p0 ad_p0 p0_many post A) args s 0 0 A) (F0 m 0 ls []) by rw [hH] at hG; exact hG
  clear hH
  refine lv_iconst (v := 0) hx hb dX3_hasSomethingIn_0 (by decide) ?_
  refine lv_istore_n (lv' := [(2, .int (0 : Int32)), (0, .ref h_p0), (1, .int a1)]) hx hb dX3_hasSomethingIn_1 rfl hl (by decide) rfl (fun ls hl => ?_)
  obtain ⟨n9, hw⟩ := hw
  refine c_X3_hasSomethingIn_L2 (l := l)  E0 ?_ n9 _ hw _ _ _ hP hD hS (lv_sub hl [1, 2, 0] rfl)
  · intro v10 H locs ls hw hP hD hS hl
    have hP : va_P (dC, dI) vwCl (wld_X3_hasSomethingIn cI cJ cZ h_p0 ad_p0 p0_many) H := hP
    have hD : va_D A (wld_X3_hasSomethingIn cI cJ cZ h_p0 ad_p0 p0_many) := hD
    refine lv_iconst (v := 0) hx hb dX3_hasSomethingIn_33 (by decide) ?_
    exact x_zret (w1 := fun (u : Unit) => (wld_X3_hasSomethingIn cI cJ cZ h_p0 ad_p0 p0_many)) hx hb hr hlocks (by decide) () hw hP hD hS dX3_hasSomethingIn_34
abbrev wld_X4_isNowhereBelow (cI cJ cZ : ClassId) (h_p0 : Nat) (h_p2 : Nat) (ad_p0 : Nat → Nat) (ad_p2 : Nat → Nat) (n_p0 : Nat) (p0_width : Int32) (p0_size : Int32) (p0_cells : Nat → Int32) (p2_many : Nat → Int32) : va_W := [(h_p0, .inr (4, [.ref (ad_p0 0), .ref (ad_p0 1), .ref (ad_p0 2), .ref (ad_p0 3), .ref (ad_p0 4), .int p0_width, .int p0_size])), ((ad_p0 0), .inl (cI, (n_p0 * 16), .inl p0_cells)), (h_p2, .inr (3, [.ref (ad_p2 0), .ref (ad_p2 1)])), ((ad_p2 0), .inl (cI, 16, .inl p2_many))]
abbrev q_X4_isNowhereBelow (dC : Nat → ClassId) (dI : Nat → Nat → Nat) (cI cJ cZ : ClassId) (h_p0 : Nat) (h_p2 : Nat) (ad_p0 : Nat → Nat) (ad_p2 : Nat → Nat) (n_p0 : Nat) (p0_width : Int32) (p0_size : Int32) (p0_cells : Nat → Int32) (p2_many : Nat → Int32) (post : Int32 → Prop) (A : Nat → Prop) : Array Value → State → Outcome → State → Prop := va_Qi (fun r (u : Unit) => post r ) (fun (u : Unit) t => xPost (dC, dI) A (wld_X4_isNowhereBelow cI cJ cZ h_p0 h_p2 ad_p0 ad_p2 n_p0 p0_width p0_size p0_cells p2_many) t) A
def w_X4_isNowhereBelow_L2b (n_p0 : Nat) (v1 : Int32) (p0_width : Int32) (p0_cells : Nat → Int32) (p2_many : Nat → Int32) (post : Int32 → Prop) (K : (Int32) → Prop) (rec : (Int32) → Prop) (v3 : Int32) : Prop :=
    (p0_width ≤ v3 →
      K v3) ∧
    (¬ p0_width ≤ v3 →
      w_X4_cellAt n_p0 p0_width p0_cells v1 v3 (fun r3 =>
      vp_in v3 16 ∧
      ((p2_many v3.toNatClampNeg) ≤ r3 →
        ∀ x6 : Int32, x6 = v3 + (1 : Int32) →
        rec x6) ∧
      (¬ (p2_many v3.toNatClampNeg) ≤ r3 →
        (post (0 : Int32)))))
def w_X4_isNowhereBelow_L2 (n_p0 : Nat) (v1 : Int32) (p0_width : Int32) (p0_cells : Nat → Int32) (p2_many : Nat → Int32) (post : Int32 → Prop) (K : (Int32) → Prop) : Nat → (Int32) → Prop
  | 0, _ => False
  | n + 1, v3 => w_X4_isNowhereBelow_L2b n_p0 v1 p0_width p0_cells p2_many post K (w_X4_isNowhereBelow_L2 n_p0 v1 p0_width p0_cells p2_many post K n) v3
def w_X4_isNowhereBelow (n_p0 : Nat) (p0_width : Int32) (p0_cells : Nat → Int32) (p2_many : Nat → Int32) (a1 : Int32) (post : Int32 → Prop) : Prop :=
  ∃ n : Nat, w_X4_isNowhereBelow_L2 n_p0 a1 p0_width p0_cells p2_many post (fun v8 =>
      (post (1 : Int32))) n (0 : Int32)
set_option maxHeartbeats 4000000 in
set_option maxRecDepth 100000 in
theorem c_X4_isNowhereBelow_L2 {p : Program} {l : Launch} {e : Env} {s : State} {m : MethodId} {args : Array Value} {below : List Frame} {meth : Method} {c : Code} {dC : Nat → ClassId} {dI : Nat → Nat → Nat} {A : Nat → Prop} {cI cJ cZ : ClassId} {h_p0 : Nat} {h_p2 : Nat} {ad_p0 : Nat → Nat} {ad_p2 : Nat → Nat} {n_p0 : Nat} {p0_width : Int32} {p0_size : Int32} {p0_cells : Nat → Int32} {p2_many : Nat → Int32} {v1 : Int32}  {post : Int32 → Prop} {K : (Int32) → Prop} (E0 : xEnv p s m args meth c cX4_isNowhereBelow (some .boolean) 4 RX4 wsX4_isNowhereBelow (dC, dI) cI cJ cZ A) (hk : ∀ (v3 : Int32) (H : Heap) (locs : List Loc) (ls : Array Slot), K v3 → va_P (dC, dI) vwCl (wld_X4_isNowhereBelow cI cJ cZ h_p0 h_p2 ad_p0 ad_p2 n_p0 p0_width p0_size p0_cells p2_many) H → va_D A (wld_X4_isNowhereBelow cI cJ cZ h_p0 h_p2 ad_p0 ad_p2 n_p0 p0_width p0_size p0_cells p2_many) → va_S A s.heap H locs → lv_has ls 4 [] → W p l e ({ frames := 1, cells := 0, slots := 0, locals := 22 }) s m args below meth c H locs 0 0 (MQ below (q_X4_isNowhereBelow dC dI cI cJ cZ h_p0 h_p2 ad_p0 ad_p2 n_p0 p0_width p0_size p0_cells p2_many post A) args s 0 0 A) (F0 m 33 ls [])) : ∀ (n : Nat) (v3 : Int32), w_X4_isNowhereBelow_L2 n_p0 v1 p0_width p0_cells p2_many post K n v3 → ∀ (H : Heap) (locs : List Loc) (ls : Array Slot), va_P (dC, dI) vwCl (wld_X4_isNowhereBelow cI cJ cZ h_p0 h_p2 ad_p0 ad_p2 n_p0 p0_width p0_size p0_cells p2_many) H → va_D A (wld_X4_isNowhereBelow cI cJ cZ h_p0 h_p2 ad_p0 ad_p2 n_p0 p0_width p0_size p0_cells p2_many) → va_S A s.heap H locs → lv_has ls 4 [(0, .ref h_p0), (1, .int v1), (2, .ref h_p2), (3, .int v3)] → W p l e ({ frames := 1, cells := 0, slots := 0, locals := 22 }) s m args below meth c H locs 0 0 (MQ below (q_X4_isNowhereBelow dC dI cI cJ cZ h_p0 h_p2 ad_p0 ad_p2 n_p0 p0_width p0_size p0_cells p2_many post A) args s 0 0 A) (F0 m 2 ls []) := by
  obtain ⟨hx, hb, hr, hml, hown, hts, hlocks, hK, hA, n1, n2⟩ := id E0
  have iX3 : ∀ w ∈ u_ws RX3 TX3 2, w ∈ wsX4_isNowhereBelow := fun w h => List.mem_cons_of_mem _ (List.mem_append_right _ h)
  have iX4 : ∀ w ∈ u_ws RX4 TX4 7, w ∈ wsX4_isNowhereBelow := fun w h => List.mem_cons_of_mem _ (List.mem_append_left _ (List.mem_append_right _ h))
  intro n
  induction n with
  | zero => intro v3 hw; exact hw.elim
  | succ n ih =>
    intro v3 hw H locs ls hP hD hS hl
    have hw : w_X4_isNowhereBelow_L2b n_p0 v1 p0_width p0_cells p2_many post K (w_X4_isNowhereBelow_L2 n_p0 v1 p0_width p0_cells p2_many post K n) v3 := hw
    unfold w_X4_isNowhereBelow_L2b at hw
    refine lv_iload_n hx hb dX4_isNowhereBelow_2 rfl (lv_at hl 3 rfl) ?_
    refine lv_aload_n hx hb dX4_isNowhereBelow_3 rfl (lv_at hl 0 rfl) ?_
    refine va_get (D := (dC, dI)) (ci := 4) (v := .int p0_width) (C := RX4) (T := TX4) (N := 7) hx hb hts iX4 hown hK hP 0 rfl rfl 5 (by decide) (hts (.fieldLink RX4 15 "NetHouse$Markings" "width" "I") (by decide +kernel)) (fun _ h9 => h9) rfl dX4_isNowhereBelow_4 ?_
    refine lv_icmp_ge (tgt := 33) hx hb dX4_isNowhereBelow_7 (by decide) (fun c1 => ?_) (fun c2 => ?_)
    · have hw := hw.1 c1
      exact hk _ _ _ _ hw hP hD hS (lv_sub hl [] rfl)
    · have hw := hw.2 c2
      refine lv_aload_n hx hb dX4_isNowhereBelow_10 rfl (lv_at hl 0 rfl) ?_
      refine lv_iload_n hx hb dX4_isNowhereBelow_11 rfl (lv_at hl 1 rfl) ?_
      refine lv_iload_n hx hb dX4_isNowhereBelow_12 rfl (lv_at hl 3 rfl) ?_
      obtain ⟨hPc, hDc⟩ := x_sub (wc := (wld_X4_cellAt cI cJ cZ h_p0 ad_p0 n_p0 p0_width p0_size p0_cells)) hP hD [0, 1] (n := 4) rfl rfl (by decide +kernel)
      refine x_calli (ws' := fun (u : Unit) => (wld_X4_isNowhereBelow cI cJ cZ h_p0 h_p2 ad_p0 ad_p2 n_p0 p0_width p0_size p0_cells p2_many)) hP hD hS hA [0, 1] [2, 3] [2, 3, 0, 1] (n := 4) (k := 2) rfl (fun _ => rfl) rfl (by decide +kernel) (fun _ => rfl) (va_runV (As := [.int v1, .int v3]) (rest := []) ⟨hx, hb, hml, hown, hts⟩ (c_X4_cellAt (l := l) (dC := dC) (dI := dI) (cI := cI) (cJ := cJ) (cZ := cZ) (sz := H.size) (h_p0 := h_p0) (ad_p0 := ad_p0) (n_p0 := n_p0) (p0_width := p0_width) (p0_size := p0_size) (p0_cells := p0_cells) hw) (cwV 2 hts gX4_isNowhereBelow_X4_cellAt rfl rfl rfl (by decide +kernel) ⟨Nat.le_of_ble_eq_true rfl, Nat.le_of_ble_eq_true rfl⟩) ⟨xPre_blind, va_recv hK hP (ci := 4) (q0 := 0) rfl rfl, xPre_at hK hPc hDc n1 n2⟩ rfl rfl hl.1 rfl (lv_room (Nat.le_of_ble_eq_true rfl)) dX4_isNowhereBelow_13 ⟨Nat.zero_le _, Nat.zero_le _⟩) (fun r3 u H locs hw hP hD hS => ?_)
      try dsimp only at hw
      have hP : va_P (dC, dI) vwCl (wld_X4_isNowhereBelow cI cJ cZ h_p0 h_p2 ad_p0 ad_p2 n_p0 p0_width p0_size p0_cells p2_many) H := hP
      have hD : va_D A (wld_X4_isNowhereBelow cI cJ cZ h_p0 h_p2 ad_p0 ad_p2 n_p0 p0_width p0_size p0_cells p2_many) := hD
      refine lv_aload_n hx hb dX4_isNowhereBelow_16 rfl (lv_at hl 2 rfl) ?_
      refine va_get (D := (dC, dI)) (ci := 3) (v := .ref (ad_p2 0)) (C := RX3) (T := TX3) (N := 2) hx hb hts iX3 hown hK hP 2 rfl rfl 0 (by decide) (hts (.fieldLink RX4 49 "NetHouse$Holding" "many" "[I") (by decide +kernel)) (fun _ h9 => h9) rfl dX4_isNowhereBelow_17 ?_
      refine lv_iload_n hx hb dX4_isNowhereBelow_20 rfl (lv_at hl 3 rfl) ?_
      refine va_iald hx hb hK hP 3 0 rfl rfl hw.1 dX4_isNowhereBelow_21 ?_
      have hw := hw.2
      refine lv_icmp_ge (tgt := 27) hx hb dX4_isNowhereBelow_22 (by decide) (fun c4 => ?_) (fun c5 => ?_)
      · have hw := hw.1 c4
        obtain ⟨x6, ex6⟩ : ∃ y : Int32, y = v3 + (1 : Int32) := ⟨_, rfl⟩
        have hw := hw x6 ex6
        refine lv_iinc (v := x6) (lv' := [(3, .int x6), (0, .ref h_p0), (1, .int v1), (2, .ref h_p2)]) hx hb dX4_isNowhereBelow_27 hl (k := 3) rfl (by rw [ex6]; rfl) (by decide) rfl (fun ls hl => ?_)
        refine lv_goto (tgt := 2) hx hb dX4_isNowhereBelow_30 (by decide) ?_
        exact ih _ hw _ _ _ hP hD hS (lv_sub hl [1, 2, 3, 0] rfl)
      · have hw := hw.2 c5
        refine lv_iconst (v := 0) hx hb dX4_isNowhereBelow_25 (by decide) ?_
        exact x_zret (w1 := fun (u : Unit) => (wld_X4_isNowhereBelow cI cJ cZ h_p0 h_p2 ad_p0 ad_p2 n_p0 p0_width p0_size p0_cells p2_many)) hx hb hr hlocks (by decide) () hw hP hD hS dX4_isNowhereBelow_26
set_option maxHeartbeats 4000000 in
set_option maxRecDepth 100000 in
theorem c_X4_isNowhereBelow {l : Launch} {dC : Nat → ClassId} {dI : Nat → Nat → Nat} {sz : Nat} {cI cJ cZ : ClassId} {h_p0 : Nat} {h_p2 : Nat} {ad_p0 : Nat → Nat} {ad_p2 : Nat → Nat} {n_p0 : Nat} {p0_width : Int32} {p0_size : Int32} {p0_cells : Nat → Int32} {p2_many : Nat → Int32} {a1 : Int32} {post : Int32 → Prop} (hw : w_X4_isNowhereBelow n_p0 p0_width p0_cells p2_many a1 post) : Met l yX4_isNowhereBelow wsX4_isNowhereBelow ({ frames := 1, cells := 0, slots := 0, locals := 22 }) (va_Pc [.ref h_p0, .int a1, .ref h_p2] (xPre (dC, dI) cI cJ cZ (wld_X4_isNowhereBelow cI cJ cZ h_p0 h_p2 ad_p0 ad_p2 n_p0 p0_width p0_size p0_cells p2_many) sz)) (q_X4_isNowhereBelow dC dI cI cJ cZ h_p0 h_p2 ad_p0 ad_p2 n_p0 p0_width p0_size p0_cells p2_many post (va_A (wld_X4_isNowhereBelow cI cJ cZ h_p0 h_p2 ad_p0 ad_p2 n_p0 p0_width p0_size p0_cells p2_many) sz)) 0 0 (va_A (wld_X4_isNowhereBelow cI cJ cZ h_p0 h_p2 ad_p0 ad_p2 n_p0 p0_width p0_size p0_cells p2_many) sz) := by
  refine x_met (cc := cX4_isNowhereBelow) (maxL := 4) (ret := (some .boolean)) (own := RX4) (Qc := fun A => (q_X4_isNowhereBelow dC dI cI cJ cZ h_p0 h_p2 ad_p0 ad_p2 n_p0 p0_width p0_size p0_cells p2_many post A)) (by decide) rfl rfl (Nat.le_of_ble_eq_true rfl) ?_
  intro p e s m args below meth c A ls E0 hP hD hS hl
  obtain ⟨hx, hb, hr, hml, hown, hts, hlocks, hK, hA, n1, n2⟩ := id E0
  have iX3 : ∀ w ∈ u_ws RX3 TX3 2, w ∈ wsX4_isNowhereBelow := fun w h => List.mem_cons_of_mem _ (List.mem_append_right _ h)
  have iX4 : ∀ w ∈ u_ws RX4 TX4 7, w ∈ wsX4_isNowhereBelow := fun w h => List.mem_cons_of_mem _ (List.mem_append_left _ (List.mem_append_right _ h))
  have hS0 := hS
  have hl : lv_has ls 4 [(0, .ref h_p0), (1, .int a1), (2, .ref h_p2)] := hl
  unfold w_X4_isNowhereBelow at hw
  obtain ⟨H, hH⟩ : ∃ H, H = s.heap := ⟨_, rfl⟩
  have hS : va_S A s.heap H [] := by rw [hH]; exact hS
  have hP : va_P (dC, dI) vwCl (wld_X4_isNowhereBelow cI cJ cZ h_p0 h_p2 ad_p0 ad_p2 n_p0 p0_width p0_size p0_cells p2_many) H := by rw [hH]; exact hP
  suffices hG : W p l e ({ frames := 1, cells := 0, slots := 0, locals := 22 }) s m args below meth c H [] 0 0 (MQ below (q_X4_isNowhereBelow dC dI cI cJ cZ h_p0 h_p2 ad_p0 ad_p2 n_p0 p0_width p0_size p0_cells p2_many post A) args s 0 0 A) (F0 m 0 ls []) by rw [hH] at hG; exact hG
  clear hH
  refine lv_iconst (v := 0) hx hb dX4_isNowhereBelow_0 (by decide) ?_
  refine lv_istore_n (lv' := [(3, .int (0 : Int32)), (0, .ref h_p0), (1, .int a1), (2, .ref h_p2)]) hx hb dX4_isNowhereBelow_1 rfl hl (by decide) rfl (fun ls hl => ?_)
  obtain ⟨n7, hw⟩ := hw
  refine c_X4_isNowhereBelow_L2 (l := l)  E0 ?_ n7 _ hw _ _ _ hP hD hS (lv_sub hl [1, 2, 3, 0] rfl)
  · intro v8 H locs ls hw hP hD hS hl
    have hP : va_P (dC, dI) vwCl (wld_X4_isNowhereBelow cI cJ cZ h_p0 h_p2 ad_p0 ad_p2 n_p0 p0_width p0_size p0_cells p2_many) H := hP
    have hD : va_D A (wld_X4_isNowhereBelow cI cJ cZ h_p0 h_p2 ad_p0 ad_p2 n_p0 p0_width p0_size p0_cells p2_many) := hD
    refine lv_iconst (v := 1) hx hb dX4_isNowhereBelow_33 (by decide) ?_
    exact x_zret (w1 := fun (u : Unit) => (wld_X4_isNowhereBelow cI cJ cZ h_p0 h_p2 ad_p0 ad_p2 n_p0 p0_width p0_size p0_cells p2_many)) hx hb hr hlocks (by decide) () hw hP hD hS dX4_isNowhereBelow_34
abbrev wld_X4_isNowhereAbove (cI cJ cZ : ClassId) (h_p0 : Nat) (h_p2 : Nat) (ad_p0 : Nat → Nat) (ad_p2 : Nat → Nat) (n_p0 : Nat) (p0_width : Int32) (p0_size : Int32) (p0_cells : Nat → Int32) (p2_many : Nat → Int32) : va_W := [(h_p0, .inr (4, [.ref (ad_p0 0), .ref (ad_p0 1), .ref (ad_p0 2), .ref (ad_p0 3), .ref (ad_p0 4), .int p0_width, .int p0_size])), ((ad_p0 0), .inl (cI, (n_p0 * 16), .inl p0_cells)), (h_p2, .inr (3, [.ref (ad_p2 0), .ref (ad_p2 1)])), ((ad_p2 0), .inl (cI, 16, .inl p2_many))]
abbrev q_X4_isNowhereAbove (dC : Nat → ClassId) (dI : Nat → Nat → Nat) (cI cJ cZ : ClassId) (h_p0 : Nat) (h_p2 : Nat) (ad_p0 : Nat → Nat) (ad_p2 : Nat → Nat) (n_p0 : Nat) (p0_width : Int32) (p0_size : Int32) (p0_cells : Nat → Int32) (p2_many : Nat → Int32) (post : Int32 → Prop) (A : Nat → Prop) : Array Value → State → Outcome → State → Prop := va_Qi (fun r (u : Unit) => post r ) (fun (u : Unit) t => xPost (dC, dI) A (wld_X4_isNowhereAbove cI cJ cZ h_p0 h_p2 ad_p0 ad_p2 n_p0 p0_width p0_size p0_cells p2_many) t) A
def w_X4_isNowhereAbove_L2b (n_p0 : Nat) (v1 : Int32) (p0_width : Int32) (p0_cells : Nat → Int32) (p2_many : Nat → Int32) (post : Int32 → Prop) (K : (Int32) → Prop) (rec : (Int32) → Prop) (v3 : Int32) : Prop :=
    (p0_width ≤ v3 →
      K v3) ∧
    (¬ p0_width ≤ v3 →
      w_X4_cellAt n_p0 p0_width p0_cells v1 v3 (fun r3 =>
      vp_in v3 16 ∧
      (r3 ≤ (p2_many v3.toNatClampNeg) →
        ∀ x6 : Int32, x6 = v3 + (1 : Int32) →
        rec x6) ∧
      (¬ r3 ≤ (p2_many v3.toNatClampNeg) →
        (post (0 : Int32)))))
def w_X4_isNowhereAbove_L2 (n_p0 : Nat) (v1 : Int32) (p0_width : Int32) (p0_cells : Nat → Int32) (p2_many : Nat → Int32) (post : Int32 → Prop) (K : (Int32) → Prop) : Nat → (Int32) → Prop
  | 0, _ => False
  | n + 1, v3 => w_X4_isNowhereAbove_L2b n_p0 v1 p0_width p0_cells p2_many post K (w_X4_isNowhereAbove_L2 n_p0 v1 p0_width p0_cells p2_many post K n) v3
def w_X4_isNowhereAbove (n_p0 : Nat) (p0_width : Int32) (p0_cells : Nat → Int32) (p2_many : Nat → Int32) (a1 : Int32) (post : Int32 → Prop) : Prop :=
  ∃ n : Nat, w_X4_isNowhereAbove_L2 n_p0 a1 p0_width p0_cells p2_many post (fun v8 =>
      (post (1 : Int32))) n (0 : Int32)
set_option maxHeartbeats 4000000 in
set_option maxRecDepth 100000 in
theorem c_X4_isNowhereAbove_L2 {p : Program} {l : Launch} {e : Env} {s : State} {m : MethodId} {args : Array Value} {below : List Frame} {meth : Method} {c : Code} {dC : Nat → ClassId} {dI : Nat → Nat → Nat} {A : Nat → Prop} {cI cJ cZ : ClassId} {h_p0 : Nat} {h_p2 : Nat} {ad_p0 : Nat → Nat} {ad_p2 : Nat → Nat} {n_p0 : Nat} {p0_width : Int32} {p0_size : Int32} {p0_cells : Nat → Int32} {p2_many : Nat → Int32} {v1 : Int32}  {post : Int32 → Prop} {K : (Int32) → Prop} (E0 : xEnv p s m args meth c cX4_isNowhereAbove (some .boolean) 4 RX4 wsX4_isNowhereAbove (dC, dI) cI cJ cZ A) (hk : ∀ (v3 : Int32) (H : Heap) (locs : List Loc) (ls : Array Slot), K v3 → va_P (dC, dI) vwCl (wld_X4_isNowhereAbove cI cJ cZ h_p0 h_p2 ad_p0 ad_p2 n_p0 p0_width p0_size p0_cells p2_many) H → va_D A (wld_X4_isNowhereAbove cI cJ cZ h_p0 h_p2 ad_p0 ad_p2 n_p0 p0_width p0_size p0_cells p2_many) → va_S A s.heap H locs → lv_has ls 4 [] → W p l e ({ frames := 1, cells := 0, slots := 0, locals := 22 }) s m args below meth c H locs 0 0 (MQ below (q_X4_isNowhereAbove dC dI cI cJ cZ h_p0 h_p2 ad_p0 ad_p2 n_p0 p0_width p0_size p0_cells p2_many post A) args s 0 0 A) (F0 m 33 ls [])) : ∀ (n : Nat) (v3 : Int32), w_X4_isNowhereAbove_L2 n_p0 v1 p0_width p0_cells p2_many post K n v3 → ∀ (H : Heap) (locs : List Loc) (ls : Array Slot), va_P (dC, dI) vwCl (wld_X4_isNowhereAbove cI cJ cZ h_p0 h_p2 ad_p0 ad_p2 n_p0 p0_width p0_size p0_cells p2_many) H → va_D A (wld_X4_isNowhereAbove cI cJ cZ h_p0 h_p2 ad_p0 ad_p2 n_p0 p0_width p0_size p0_cells p2_many) → va_S A s.heap H locs → lv_has ls 4 [(0, .ref h_p0), (1, .int v1), (2, .ref h_p2), (3, .int v3)] → W p l e ({ frames := 1, cells := 0, slots := 0, locals := 22 }) s m args below meth c H locs 0 0 (MQ below (q_X4_isNowhereAbove dC dI cI cJ cZ h_p0 h_p2 ad_p0 ad_p2 n_p0 p0_width p0_size p0_cells p2_many post A) args s 0 0 A) (F0 m 2 ls []) := by
  obtain ⟨hx, hb, hr, hml, hown, hts, hlocks, hK, hA, n1, n2⟩ := id E0
  have iX3 : ∀ w ∈ u_ws RX3 TX3 2, w ∈ wsX4_isNowhereAbove := fun w h => List.mem_cons_of_mem _ (List.mem_append_right _ h)
  have iX4 : ∀ w ∈ u_ws RX4 TX4 7, w ∈ wsX4_isNowhereAbove := fun w h => List.mem_cons_of_mem _ (List.mem_append_left _ (List.mem_append_right _ h))
  intro n
  induction n with
  | zero => intro v3 hw; exact hw.elim
  | succ n ih =>
    intro v3 hw H locs ls hP hD hS hl
    have hw : w_X4_isNowhereAbove_L2b n_p0 v1 p0_width p0_cells p2_many post K (w_X4_isNowhereAbove_L2 n_p0 v1 p0_width p0_cells p2_many post K n) v3 := hw
    unfold w_X4_isNowhereAbove_L2b at hw
    refine lv_iload_n hx hb dX4_isNowhereAbove_2 rfl (lv_at hl 3 rfl) ?_
    refine lv_aload_n hx hb dX4_isNowhereAbove_3 rfl (lv_at hl 0 rfl) ?_
    refine va_get (D := (dC, dI)) (ci := 4) (v := .int p0_width) (C := RX4) (T := TX4) (N := 7) hx hb hts iX4 hown hK hP 0 rfl rfl 5 (by decide) (hts (.fieldLink RX4 15 "NetHouse$Markings" "width" "I") (by decide +kernel)) (fun _ h9 => h9) rfl dX4_isNowhereAbove_4 ?_
    refine lv_icmp_ge (tgt := 33) hx hb dX4_isNowhereAbove_7 (by decide) (fun c1 => ?_) (fun c2 => ?_)
    · have hw := hw.1 c1
      exact hk _ _ _ _ hw hP hD hS (lv_sub hl [] rfl)
    · have hw := hw.2 c2
      refine lv_aload_n hx hb dX4_isNowhereAbove_10 rfl (lv_at hl 0 rfl) ?_
      refine lv_iload_n hx hb dX4_isNowhereAbove_11 rfl (lv_at hl 1 rfl) ?_
      refine lv_iload_n hx hb dX4_isNowhereAbove_12 rfl (lv_at hl 3 rfl) ?_
      obtain ⟨hPc, hDc⟩ := x_sub (wc := (wld_X4_cellAt cI cJ cZ h_p0 ad_p0 n_p0 p0_width p0_size p0_cells)) hP hD [0, 1] (n := 4) rfl rfl (by decide +kernel)
      refine x_calli (ws' := fun (u : Unit) => (wld_X4_isNowhereAbove cI cJ cZ h_p0 h_p2 ad_p0 ad_p2 n_p0 p0_width p0_size p0_cells p2_many)) hP hD hS hA [0, 1] [2, 3] [2, 3, 0, 1] (n := 4) (k := 2) rfl (fun _ => rfl) rfl (by decide +kernel) (fun _ => rfl) (va_runV (As := [.int v1, .int v3]) (rest := []) ⟨hx, hb, hml, hown, hts⟩ (c_X4_cellAt (l := l) (dC := dC) (dI := dI) (cI := cI) (cJ := cJ) (cZ := cZ) (sz := H.size) (h_p0 := h_p0) (ad_p0 := ad_p0) (n_p0 := n_p0) (p0_width := p0_width) (p0_size := p0_size) (p0_cells := p0_cells) hw) (cwV 2 hts gX4_isNowhereAbove_X4_cellAt rfl rfl rfl (by decide +kernel) ⟨Nat.le_of_ble_eq_true rfl, Nat.le_of_ble_eq_true rfl⟩) ⟨xPre_blind, va_recv hK hP (ci := 4) (q0 := 0) rfl rfl, xPre_at hK hPc hDc n1 n2⟩ rfl rfl hl.1 rfl (lv_room (Nat.le_of_ble_eq_true rfl)) dX4_isNowhereAbove_13 ⟨Nat.zero_le _, Nat.zero_le _⟩) (fun r3 u H locs hw hP hD hS => ?_)
      try dsimp only at hw
      have hP : va_P (dC, dI) vwCl (wld_X4_isNowhereAbove cI cJ cZ h_p0 h_p2 ad_p0 ad_p2 n_p0 p0_width p0_size p0_cells p2_many) H := hP
      have hD : va_D A (wld_X4_isNowhereAbove cI cJ cZ h_p0 h_p2 ad_p0 ad_p2 n_p0 p0_width p0_size p0_cells p2_many) := hD
      refine lv_aload_n hx hb dX4_isNowhereAbove_16 rfl (lv_at hl 2 rfl) ?_
      refine va_get (D := (dC, dI)) (ci := 3) (v := .ref (ad_p2 0)) (C := RX3) (T := TX3) (N := 2) hx hb hts iX3 hown hK hP 2 rfl rfl 0 (by decide) (hts (.fieldLink RX4 49 "NetHouse$Holding" "many" "[I") (by decide +kernel)) (fun _ h9 => h9) rfl dX4_isNowhereAbove_17 ?_
      refine lv_iload_n hx hb dX4_isNowhereAbove_20 rfl (lv_at hl 3 rfl) ?_
      refine va_iald hx hb hK hP 3 0 rfl rfl hw.1 dX4_isNowhereAbove_21 ?_
      have hw := hw.2
      refine lv_icmp_le (tgt := 27) hx hb dX4_isNowhereAbove_22 (by decide) (fun c4 => ?_) (fun c5 => ?_)
      · have hw := hw.1 c4
        obtain ⟨x6, ex6⟩ : ∃ y : Int32, y = v3 + (1 : Int32) := ⟨_, rfl⟩
        have hw := hw x6 ex6
        refine lv_iinc (v := x6) (lv' := [(3, .int x6), (0, .ref h_p0), (1, .int v1), (2, .ref h_p2)]) hx hb dX4_isNowhereAbove_27 hl (k := 3) rfl (by rw [ex6]; rfl) (by decide) rfl (fun ls hl => ?_)
        refine lv_goto (tgt := 2) hx hb dX4_isNowhereAbove_30 (by decide) ?_
        exact ih _ hw _ _ _ hP hD hS (lv_sub hl [1, 2, 3, 0] rfl)
      · have hw := hw.2 c5
        refine lv_iconst (v := 0) hx hb dX4_isNowhereAbove_25 (by decide) ?_
        exact x_zret (w1 := fun (u : Unit) => (wld_X4_isNowhereAbove cI cJ cZ h_p0 h_p2 ad_p0 ad_p2 n_p0 p0_width p0_size p0_cells p2_many)) hx hb hr hlocks (by decide) () hw hP hD hS dX4_isNowhereAbove_26
set_option maxHeartbeats 4000000 in
set_option maxRecDepth 100000 in
theorem c_X4_isNowhereAbove {l : Launch} {dC : Nat → ClassId} {dI : Nat → Nat → Nat} {sz : Nat} {cI cJ cZ : ClassId} {h_p0 : Nat} {h_p2 : Nat} {ad_p0 : Nat → Nat} {ad_p2 : Nat → Nat} {n_p0 : Nat} {p0_width : Int32} {p0_size : Int32} {p0_cells : Nat → Int32} {p2_many : Nat → Int32} {a1 : Int32} {post : Int32 → Prop} (hw : w_X4_isNowhereAbove n_p0 p0_width p0_cells p2_many a1 post) : Met l yX4_isNowhereAbove wsX4_isNowhereAbove ({ frames := 1, cells := 0, slots := 0, locals := 22 }) (va_Pc [.ref h_p0, .int a1, .ref h_p2] (xPre (dC, dI) cI cJ cZ (wld_X4_isNowhereAbove cI cJ cZ h_p0 h_p2 ad_p0 ad_p2 n_p0 p0_width p0_size p0_cells p2_many) sz)) (q_X4_isNowhereAbove dC dI cI cJ cZ h_p0 h_p2 ad_p0 ad_p2 n_p0 p0_width p0_size p0_cells p2_many post (va_A (wld_X4_isNowhereAbove cI cJ cZ h_p0 h_p2 ad_p0 ad_p2 n_p0 p0_width p0_size p0_cells p2_many) sz)) 0 0 (va_A (wld_X4_isNowhereAbove cI cJ cZ h_p0 h_p2 ad_p0 ad_p2 n_p0 p0_width p0_size p0_cells p2_many) sz) := by
  refine x_met (cc := cX4_isNowhereAbove) (maxL := 4) (ret := (some .boolean)) (own := RX4) (Qc := fun A => (q_X4_isNowhereAbove dC dI cI cJ cZ h_p0 h_p2 ad_p0 ad_p2 n_p0 p0_width p0_size p0_cells p2_many post A)) (by decide) rfl rfl (Nat.le_of_ble_eq_true rfl) ?_
  intro p e s m args below meth c A ls E0 hP hD hS hl
  obtain ⟨hx, hb, hr, hml, hown, hts, hlocks, hK, hA, n1, n2⟩ := id E0
  have iX3 : ∀ w ∈ u_ws RX3 TX3 2, w ∈ wsX4_isNowhereAbove := fun w h => List.mem_cons_of_mem _ (List.mem_append_right _ h)
  have iX4 : ∀ w ∈ u_ws RX4 TX4 7, w ∈ wsX4_isNowhereAbove := fun w h => List.mem_cons_of_mem _ (List.mem_append_left _ (List.mem_append_right _ h))
  have hS0 := hS
  have hl : lv_has ls 4 [(0, .ref h_p0), (1, .int a1), (2, .ref h_p2)] := hl
  unfold w_X4_isNowhereAbove at hw
  obtain ⟨H, hH⟩ : ∃ H, H = s.heap := ⟨_, rfl⟩
  have hS : va_S A s.heap H [] := by rw [hH]; exact hS
  have hP : va_P (dC, dI) vwCl (wld_X4_isNowhereAbove cI cJ cZ h_p0 h_p2 ad_p0 ad_p2 n_p0 p0_width p0_size p0_cells p2_many) H := by rw [hH]; exact hP
  suffices hG : W p l e ({ frames := 1, cells := 0, slots := 0, locals := 22 }) s m args below meth c H [] 0 0 (MQ below (q_X4_isNowhereAbove dC dI cI cJ cZ h_p0 h_p2 ad_p0 ad_p2 n_p0 p0_width p0_size p0_cells p2_many post A) args s 0 0 A) (F0 m 0 ls []) by rw [hH] at hG; exact hG
  clear hH
  refine lv_iconst (v := 0) hx hb dX4_isNowhereAbove_0 (by decide) ?_
  refine lv_istore_n (lv' := [(3, .int (0 : Int32)), (0, .ref h_p0), (1, .int a1), (2, .ref h_p2)]) hx hb dX4_isNowhereAbove_1 rfl hl (by decide) rfl (fun ls hl => ?_)
  obtain ⟨n7, hw⟩ := hw
  refine c_X4_isNowhereAbove_L2 (l := l)  E0 ?_ n7 _ hw _ _ _ hP hD hS (lv_sub hl [1, 2, 3, 0] rfl)
  · intro v8 H locs ls hw hP hD hS hl
    have hP : va_P (dC, dI) vwCl (wld_X4_isNowhereAbove cI cJ cZ h_p0 h_p2 ad_p0 ad_p2 n_p0 p0_width p0_size p0_cells p2_many) H := hP
    have hD : va_D A (wld_X4_isNowhereAbove cI cJ cZ h_p0 h_p2 ad_p0 ad_p2 n_p0 p0_width p0_size p0_cells p2_many) := hD
    refine lv_iconst (v := 1) hx hb dX4_isNowhereAbove_33 (by decide) ?_
    exact x_zret (w1 := fun (u : Unit) => (wld_X4_isNowhereAbove cI cJ cZ h_p0 h_p2 ad_p0 ad_p2 n_p0 p0_width p0_size p0_cells p2_many)) hx hb hr hlocks (by decide) () hw hP hD hS dX4_isNowhereAbove_34
abbrev wld_X4_mostAt (cI cJ cZ : ClassId) (h_p0 : Nat) (ad_p0 : Nat → Nat) (n_p0 : Nat) (p0_width : Int32) (p0_size : Int32) (p0_cells : Nat → Int32) : va_W := [(h_p0, .inr (4, [.ref (ad_p0 0), .ref (ad_p0 1), .ref (ad_p0 2), .ref (ad_p0 3), .ref (ad_p0 4), .int p0_width, .int p0_size])), ((ad_p0 0), .inl (cI, (n_p0 * 16), .inl p0_cells))]
abbrev q_X4_mostAt (dC : Nat → ClassId) (dI : Nat → Nat → Nat) (cI cJ cZ : ClassId) (h_p0 : Nat) (ad_p0 : Nat → Nat) (n_p0 : Nat) (p0_width : Int32) (p0_size : Int32) (p0_cells : Nat → Int32) (post : Int32 → Prop) (A : Nat → Prop) : Array Value → State → Outcome → State → Prop := va_Qi (fun r (u : Unit) => post r ) (fun (u : Unit) t => xPost (dC, dI) A (wld_X4_mostAt cI cJ cZ h_p0 ad_p0 n_p0 p0_width p0_size p0_cells) t) A
def w_X4_mostAt_L4b (n_p0 : Nat) (v1 : Int32) (p0_size : Int32) (p0_width : Int32) (p0_cells : Nat → Int32) (post : Int32 → Prop) (K : (Int32) → (Int32) → Prop) (rec : (Int32) → (Int32) → Prop) (v2 : Int32) (v3 : Int32) : Prop :=
    (p0_size ≤ v3 →
      K v2 v3) ∧
    (¬ p0_size ≤ v3 →
      w_X4_cellAt n_p0 p0_width p0_cells v3 v1 (fun r3 =>
      ∀ x4 : Int32, x4 = (if v2 < r3 then r3 else v2) →
      ∀ x5 : Int32, x5 = v3 + (1 : Int32) →
      rec x4 x5))
def w_X4_mostAt_L4 (n_p0 : Nat) (v1 : Int32) (p0_size : Int32) (p0_width : Int32) (p0_cells : Nat → Int32) (post : Int32 → Prop) (K : (Int32) → (Int32) → Prop) : Nat → (Int32) → (Int32) → Prop
  | 0, _, _ => False
  | n + 1, v2, v3 => w_X4_mostAt_L4b n_p0 v1 p0_size p0_width p0_cells post K (w_X4_mostAt_L4 n_p0 v1 p0_size p0_width p0_cells post K n) v2 v3
def w_X4_mostAt (n_p0 : Nat) (p0_size : Int32) (p0_width : Int32) (p0_cells : Nat → Int32) (a1 : Int32) (post : Int32 → Prop) : Prop :=
  ∃ n : Nat, w_X4_mostAt_L4 n_p0 a1 p0_size p0_width p0_cells post (fun v7 v8 =>
      (post v7)) n (0 : Int32) (0 : Int32)
set_option maxHeartbeats 4000000 in
set_option maxRecDepth 100000 in
theorem c_X4_mostAt_L4 {p : Program} {l : Launch} {e : Env} {s : State} {m : MethodId} {args : Array Value} {below : List Frame} {meth : Method} {c : Code} {dC : Nat → ClassId} {dI : Nat → Nat → Nat} {A : Nat → Prop} {cI cJ cZ : ClassId} {h_p0 : Nat} {ad_p0 : Nat → Nat} {n_p0 : Nat} {p0_width : Int32} {p0_size : Int32} {p0_cells : Nat → Int32} {v1 : Int32}  {post : Int32 → Prop} {K : (Int32) → (Int32) → Prop} (E0 : xEnv p s m args meth c cX4_mostAt (some .int) 4 RX4 wsX4_mostAt (dC, dI) cI cJ cZ A) (hk : ∀ (v2 : Int32) (v3 : Int32) (H : Heap) (locs : List Loc) (ls : Array Slot), K v2 v3 → va_P (dC, dI) vwCl (wld_X4_mostAt cI cJ cZ h_p0 ad_p0 n_p0 p0_width p0_size p0_cells) H → va_D A (wld_X4_mostAt cI cJ cZ h_p0 ad_p0 n_p0 p0_width p0_size p0_cells) → va_S A s.heap H locs → lv_has ls 4 [(2, .int v2)] → W p l e ({ frames := 1, cells := 0, slots := 0, locals := 30 }) s m args below meth c H locs 0 0 (MQ below (q_X4_mostAt dC dI cI cJ cZ h_p0 ad_p0 n_p0 p0_width p0_size p0_cells post A) args s 0 0 A) (F0 m 29 ls [])) : ∀ (n : Nat) (v2 : Int32) (v3 : Int32), w_X4_mostAt_L4 n_p0 v1 p0_size p0_width p0_cells post K n v2 v3 → ∀ (H : Heap) (locs : List Loc) (ls : Array Slot), va_P (dC, dI) vwCl (wld_X4_mostAt cI cJ cZ h_p0 ad_p0 n_p0 p0_width p0_size p0_cells) H → va_D A (wld_X4_mostAt cI cJ cZ h_p0 ad_p0 n_p0 p0_width p0_size p0_cells) → va_S A s.heap H locs → lv_has ls 4 [(0, .ref h_p0), (1, .int v1), (2, .int v2), (3, .int v3)] → W p l e ({ frames := 1, cells := 0, slots := 0, locals := 30 }) s m args below meth c H locs 0 0 (MQ below (q_X4_mostAt dC dI cI cJ cZ h_p0 ad_p0 n_p0 p0_width p0_size p0_cells post A) args s 0 0 A) (F0 m 4 ls []) := by
  obtain ⟨hx, hb, hr, hml, hown, hts, hlocks, hK, hA, n1, n2⟩ := id E0
  have iX4 : ∀ w ∈ u_ws RX4 TX4 7, w ∈ wsX4_mostAt := fun w h => List.mem_cons_of_mem _ (List.mem_append_right _ h)
  intro n
  induction n with
  | zero => intro v2 v3 hw; exact hw.elim
  | succ n ih =>
    intro v2 v3 hw H locs ls hP hD hS hl
    have hw : w_X4_mostAt_L4b n_p0 v1 p0_size p0_width p0_cells post K (w_X4_mostAt_L4 n_p0 v1 p0_size p0_width p0_cells post K n) v2 v3 := hw
    unfold w_X4_mostAt_L4b at hw
    refine lv_iload_n hx hb dX4_mostAt_4 rfl (lv_at hl 3 rfl) ?_
    refine lv_aload_n hx hb dX4_mostAt_5 rfl (lv_at hl 0 rfl) ?_
    refine va_get (D := (dC, dI)) (ci := 4) (v := .int p0_size) (C := RX4) (T := TX4) (N := 7) hx hb hts iX4 hown hK hP 0 rfl rfl 6 (by decide) (hts (.fieldLink RX4 19 "NetHouse$Markings" "size" "I") (by decide +kernel)) (fun _ h9 => h9) rfl dX4_mostAt_6 ?_
    refine lv_icmp_ge (tgt := 29) hx hb dX4_mostAt_9 (by decide) (fun c1 => ?_) (fun c2 => ?_)
    · have hw := hw.1 c1
      exact hk _ _ _ _ _ hw hP hD hS (lv_sub hl [2] rfl)
    · have hw := hw.2 c2
      refine lv_iload_n hx hb dX4_mostAt_12 rfl (lv_at hl 2 rfl) ?_
      refine lv_aload_n hx hb dX4_mostAt_13 rfl (lv_at hl 0 rfl) ?_
      refine lv_iload_n hx hb dX4_mostAt_14 rfl (lv_at hl 3 rfl) ?_
      refine lv_iload_n hx hb dX4_mostAt_15 rfl (lv_at hl 1 rfl) ?_
      obtain ⟨hPc, hDc⟩ := x_sub (wc := (wld_X4_cellAt cI cJ cZ h_p0 ad_p0 n_p0 p0_width p0_size p0_cells)) hP hD [0, 1] (n := 2) rfl rfl (by decide +kernel)
      refine x_calli (ws' := fun (u : Unit) => (wld_X4_mostAt cI cJ cZ h_p0 ad_p0 n_p0 p0_width p0_size p0_cells)) hP hD hS hA [0, 1] [] [0, 1] (n := 2) (k := 2) rfl (fun _ => rfl) rfl (by decide +kernel) (fun _ => rfl) (va_runV (As := [.int v3, .int v1]) (rest := [.int v2]) ⟨hx, hb, hml, hown, hts⟩ (c_X4_cellAt (l := l) (dC := dC) (dI := dI) (cI := cI) (cJ := cJ) (cZ := cZ) (sz := H.size) (h_p0 := h_p0) (ad_p0 := ad_p0) (n_p0 := n_p0) (p0_width := p0_width) (p0_size := p0_size) (p0_cells := p0_cells) hw) (cwV 2 hts gX4_mostAt_X4_cellAt rfl rfl rfl (by decide +kernel) ⟨Nat.le_of_ble_eq_true rfl, Nat.le_of_ble_eq_true rfl⟩) ⟨xPre_blind, va_recv hK hP (ci := 4) (q0 := 0) rfl rfl, xPre_at hK hPc hDc n1 n2⟩ rfl rfl hl.1 rfl (lv_room (Nat.le_of_ble_eq_true rfl)) dX4_mostAt_16 ⟨Nat.zero_le _, Nat.zero_le _⟩) (fun r3 u H locs hw hP hD hS => ?_)
      try dsimp only at hw
      have hP : va_P (dC, dI) vwCl (wld_X4_mostAt cI cJ cZ h_p0 ad_p0 n_p0 p0_width p0_size p0_cells) H := hP
      have hD : va_D A (wld_X4_mostAt cI cJ cZ h_p0 ad_p0 n_p0 p0_width p0_size p0_cells) := hD
      refine va_mmax hx hb (by rw [hml]; exact hl.1.symm) hown (hts (.methodLink RX4 28 Lib.Math.max.name) (by decide +kernel)) (hts (.static Lib.Math.max.name) (by decide +kernel)) (hts (.initialized "java/lang/Math") (by decide +kernel)) (hts (.code Lib.Math.max.name Lib.Math.max.code 2 (some .int)) (by decide +kernel)) (Nat.le_of_ble_eq_true rfl) (Nat.le_of_ble_eq_true rfl) (Nat.zero_le _) (Nat.zero_le _) dX4_mostAt_19 ?_
      refine lv_topi (fun x4 ex4 => ?_)
      have hw := hw x4 ex4
      refine lv_istore_n (lv' := [(2, .int x4), (0, .ref h_p0), (1, .int v1), (3, .int v3)]) hx hb dX4_mostAt_22 rfl hl (by decide) rfl (fun ls hl => ?_)
      obtain ⟨x5, ex5⟩ : ∃ y : Int32, y = v3 + (1 : Int32) := ⟨_, rfl⟩
      have hw := hw x5 ex5
      refine lv_iinc (v := x5) (lv' := [(3, .int x5), (2, .int x4), (0, .ref h_p0), (1, .int v1)]) hx hb dX4_mostAt_23 hl (k := 3) rfl (by rw [ex5]; rfl) (by decide) rfl (fun ls hl => ?_)
      refine lv_goto (tgt := 4) hx hb dX4_mostAt_26 (by decide) ?_
      exact ih _ _ hw _ _ _ hP hD hS (lv_sub hl [2, 3, 1, 0] rfl)
set_option maxHeartbeats 4000000 in
set_option maxRecDepth 100000 in
theorem c_X4_mostAt {l : Launch} {dC : Nat → ClassId} {dI : Nat → Nat → Nat} {sz : Nat} {cI cJ cZ : ClassId} {h_p0 : Nat} {ad_p0 : Nat → Nat} {n_p0 : Nat} {p0_width : Int32} {p0_size : Int32} {p0_cells : Nat → Int32} {a1 : Int32} {post : Int32 → Prop} (hw : w_X4_mostAt n_p0 p0_size p0_width p0_cells a1 post) : Met l yX4_mostAt wsX4_mostAt ({ frames := 1, cells := 0, slots := 0, locals := 30 }) (va_Pc [.ref h_p0, .int a1] (xPre (dC, dI) cI cJ cZ (wld_X4_mostAt cI cJ cZ h_p0 ad_p0 n_p0 p0_width p0_size p0_cells) sz)) (q_X4_mostAt dC dI cI cJ cZ h_p0 ad_p0 n_p0 p0_width p0_size p0_cells post (va_A (wld_X4_mostAt cI cJ cZ h_p0 ad_p0 n_p0 p0_width p0_size p0_cells) sz)) 0 0 (va_A (wld_X4_mostAt cI cJ cZ h_p0 ad_p0 n_p0 p0_width p0_size p0_cells) sz) := by
  refine x_met (cc := cX4_mostAt) (maxL := 4) (ret := (some .int)) (own := RX4) (Qc := fun A => (q_X4_mostAt dC dI cI cJ cZ h_p0 ad_p0 n_p0 p0_width p0_size p0_cells post A)) (by decide) rfl rfl (Nat.le_of_ble_eq_true rfl) ?_
  intro p e s m args below meth c A ls E0 hP hD hS hl
  obtain ⟨hx, hb, hr, hml, hown, hts, hlocks, hK, hA, n1, n2⟩ := id E0
  have iX4 : ∀ w ∈ u_ws RX4 TX4 7, w ∈ wsX4_mostAt := fun w h => List.mem_cons_of_mem _ (List.mem_append_right _ h)
  have hS0 := hS
  have hl : lv_has ls 4 [(0, .ref h_p0), (1, .int a1)] := hl
  unfold w_X4_mostAt at hw
  obtain ⟨H, hH⟩ : ∃ H, H = s.heap := ⟨_, rfl⟩
  have hS : va_S A s.heap H [] := by rw [hH]; exact hS
  have hP : va_P (dC, dI) vwCl (wld_X4_mostAt cI cJ cZ h_p0 ad_p0 n_p0 p0_width p0_size p0_cells) H := by rw [hH]; exact hP
  suffices hG : W p l e ({ frames := 1, cells := 0, slots := 0, locals := 30 }) s m args below meth c H [] 0 0 (MQ below (q_X4_mostAt dC dI cI cJ cZ h_p0 ad_p0 n_p0 p0_width p0_size p0_cells post A) args s 0 0 A) (F0 m 0 ls []) by rw [hH] at hG; exact hG
  clear hH
  refine lv_iconst (v := 0) hx hb dX4_mostAt_0 (by decide) ?_
  refine lv_istore_n (lv' := [(2, .int (0 : Int32)), (0, .ref h_p0), (1, .int a1)]) hx hb dX4_mostAt_1 rfl hl (by decide) rfl (fun ls hl => ?_)
  refine lv_iconst (v := 0) hx hb dX4_mostAt_2 (by decide) ?_
  refine lv_istore_n (lv' := [(3, .int (0 : Int32)), (2, .int (0 : Int32)), (0, .ref h_p0), (1, .int a1)]) hx hb dX4_mostAt_3 rfl hl (by decide) rfl (fun ls hl => ?_)
  obtain ⟨n6, hw⟩ := hw
  refine c_X4_mostAt_L4 (l := l)  E0 ?_ n6 _ _ hw _ _ _ hP hD hS (lv_sub hl [2, 3, 1, 0] rfl)
  · intro v7 v8 H locs ls hw hP hD hS hl
    have hP : va_P (dC, dI) vwCl (wld_X4_mostAt cI cJ cZ h_p0 ad_p0 n_p0 p0_width p0_size p0_cells) H := hP
    have hD : va_D A (wld_X4_mostAt cI cJ cZ h_p0 ad_p0 n_p0 p0_width p0_size p0_cells) := hD
    refine lv_iload_n hx hb dX4_mostAt_29 rfl (lv_at hl 0 rfl) ?_
    exact x_iret (w1 := fun (u : Unit) => (wld_X4_mostAt cI cJ cZ h_p0 ad_p0 n_p0 p0_width p0_size p0_cells)) hx hb hr hlocks () hw hP hD hS dX4_mostAt_30
abbrev wld_X4_depthOf (cI cJ cZ : ClassId) (h_p0 : Nat) (ad_p0 : Nat → Nat) (n_p0 : Nat) (p0_width : Int32) (p0_size : Int32) (p0_former : Nat → Int32) : va_W := [(h_p0, .inr (4, [.ref (ad_p0 0), .ref (ad_p0 1), .ref (ad_p0 2), .ref (ad_p0 3), .ref (ad_p0 4), .int p0_width, .int p0_size])), ((ad_p0 1), .inl (cI, n_p0, .inl p0_former))]
abbrev q_X4_depthOf (dC : Nat → ClassId) (dI : Nat → Nat → Nat) (cI cJ cZ : ClassId) (h_p0 : Nat) (ad_p0 : Nat → Nat) (n_p0 : Nat) (p0_width : Int32) (p0_size : Int32) (p0_former : Nat → Int32) (post : Int32 → Prop) (A : Nat → Prop) : Array Value → State → Outcome → State → Prop := va_Qi (fun r (u : Unit) => post r ) (fun (u : Unit) t => xPost (dC, dI) A (wld_X4_depthOf cI cJ cZ h_p0 ad_p0 n_p0 p0_width p0_size p0_former) t) A
def w_X4_depthOf_L4b (n_p0 : Nat) (p0_size : Int32) (p0_former : Nat → Int32) (post : Int32 → Prop) (K : (Int32) → (Int32) → Prop) (rec : (Int32) → (Int32) → Prop) (v2 : Int32) (v3 : Int32) : Prop :=
    (v3 ≤ 0 →
      K v2 v3) ∧
    (¬ v3 ≤ 0 →
      (p0_size ≤ v2 →
        K v2 v3) ∧
      (¬ p0_size ≤ v2 →
        ∀ x5 : Int32, x5 = v2 + (1 : Int32) →
        vp_in v3 n_p0 ∧
        ∀ x6 : Int32, x6 = (p0_former v3.toNatClampNeg) →
        rec x5 x6))
def w_X4_depthOf_L4 (n_p0 : Nat) (p0_size : Int32) (p0_former : Nat → Int32) (post : Int32 → Prop) (K : (Int32) → (Int32) → Prop) : Nat → (Int32) → (Int32) → Prop
  | 0, _, _ => False
  | n + 1, v2, v3 => w_X4_depthOf_L4b n_p0 p0_size p0_former post K (w_X4_depthOf_L4 n_p0 p0_size p0_former post K n) v2 v3
def w_X4_depthOf (n_p0 : Nat) (p0_size : Int32) (p0_former : Nat → Int32) (a1 : Int32) (post : Int32 → Prop) : Prop :=
  ∃ n : Nat, w_X4_depthOf_L4 n_p0 p0_size p0_former post (fun v8 v9 =>
      (post v8)) n (0 : Int32) a1
set_option maxHeartbeats 4000000 in
set_option maxRecDepth 100000 in
theorem c_X4_depthOf_L4 {p : Program} {l : Launch} {e : Env} {s : State} {m : MethodId} {args : Array Value} {below : List Frame} {meth : Method} {c : Code} {dC : Nat → ClassId} {dI : Nat → Nat → Nat} {A : Nat → Prop} {cI cJ cZ : ClassId} {h_p0 : Nat} {ad_p0 : Nat → Nat} {n_p0 : Nat} {p0_width : Int32} {p0_size : Int32} {p0_former : Nat → Int32}  {post : Int32 → Prop} {K : (Int32) → (Int32) → Prop} (E0 : xEnv p s m args meth c cX4_depthOf (some .int) 4 RX4 wsX4_depthOf (dC, dI) cI cJ cZ A) (hk : ∀ (v2 : Int32) (v3 : Int32) (H : Heap) (locs : List Loc) (ls : Array Slot), K v2 v3 → va_P (dC, dI) vwCl (wld_X4_depthOf cI cJ cZ h_p0 ad_p0 n_p0 p0_width p0_size p0_former) H → va_D A (wld_X4_depthOf cI cJ cZ h_p0 ad_p0 n_p0 p0_width p0_size p0_former) → va_S A s.heap H locs → lv_has ls 4 [(2, .int v2)] → W p l e ({ frames := 0, cells := 0, slots := 0, locals := 0 }) s m args below meth c H locs 0 0 (MQ below (q_X4_depthOf dC dI cI cJ cZ h_p0 ad_p0 n_p0 p0_width p0_size p0_former post A) args s 0 0 A) (F0 m 29 ls [])) : ∀ (n : Nat) (v2 : Int32) (v3 : Int32), w_X4_depthOf_L4 n_p0 p0_size p0_former post K n v2 v3 → ∀ (H : Heap) (locs : List Loc) (ls : Array Slot), va_P (dC, dI) vwCl (wld_X4_depthOf cI cJ cZ h_p0 ad_p0 n_p0 p0_width p0_size p0_former) H → va_D A (wld_X4_depthOf cI cJ cZ h_p0 ad_p0 n_p0 p0_width p0_size p0_former) → va_S A s.heap H locs → lv_has ls 4 [(0, .ref h_p0), (2, .int v2), (3, .int v3)] → W p l e ({ frames := 0, cells := 0, slots := 0, locals := 0 }) s m args below meth c H locs 0 0 (MQ below (q_X4_depthOf dC dI cI cJ cZ h_p0 ad_p0 n_p0 p0_width p0_size p0_former post A) args s 0 0 A) (F0 m 4 ls []) := by
  obtain ⟨hx, hb, hr, hml, hown, hts, hlocks, hK, hA, n1, n2⟩ := id E0
  have iX4 : ∀ w ∈ u_ws RX4 TX4 7, w ∈ wsX4_depthOf := fun w h => List.mem_cons_of_mem _ (List.mem_append_right _ h)
  intro n
  induction n with
  | zero => intro v2 v3 hw; exact hw.elim
  | succ n ih =>
    intro v2 v3 hw H locs ls hP hD hS hl
    have hw : w_X4_depthOf_L4b n_p0 p0_size p0_former post K (w_X4_depthOf_L4 n_p0 p0_size p0_former post K n) v2 v3 := hw
    unfold w_X4_depthOf_L4b at hw
    refine lv_iload_n hx hb dX4_depthOf_4 rfl (lv_at hl 2 rfl) ?_
    refine lv_if_le (tgt := 29) hx hb dX4_depthOf_5 (by decide) (fun c1 => ?_) (fun c2 => ?_)
    · have hw := hw.1 c1
      exact hk _ _ _ _ _ hw hP hD hS (lv_sub hl [1] rfl)
    · have hw := hw.2 c2
      refine lv_iload_n hx hb dX4_depthOf_8 rfl (lv_at hl 1 rfl) ?_
      refine lv_aload_n hx hb dX4_depthOf_9 rfl (lv_at hl 0 rfl) ?_
      refine va_get (D := (dC, dI)) (ci := 4) (v := .int p0_size) (C := RX4) (T := TX4) (N := 7) hx hb hts iX4 hown hK hP 0 rfl rfl 6 (by decide) (hts (.fieldLink RX4 19 "NetHouse$Markings" "size" "I") (by decide +kernel)) (fun _ h9 => h9) rfl dX4_depthOf_10 ?_
      refine lv_icmp_ge (tgt := 29) hx hb dX4_depthOf_13 (by decide) (fun c3 => ?_) (fun c4 => ?_)
      · have hw := hw.1 c3
        exact hk _ _ _ _ _ hw hP hD hS (lv_sub hl [1] rfl)
      · have hw := hw.2 c4
        obtain ⟨x5, ex5⟩ : ∃ y : Int32, y = v2 + (1 : Int32) := ⟨_, rfl⟩
        have hw := hw x5 ex5
        refine lv_iinc (v := x5) (lv' := [(2, .int x5), (0, .ref h_p0), (3, .int v3)]) hx hb dX4_depthOf_16 hl (k := 1) rfl (by rw [ex5]; rfl) (by decide) rfl (fun ls hl => ?_)
        refine lv_aload_n hx hb dX4_depthOf_19 rfl (lv_at hl 1 rfl) ?_
        refine va_get (D := (dC, dI)) (ci := 4) (v := .ref (ad_p0 1)) (C := RX4) (T := TX4) (N := 7) hx hb hts iX4 hown hK hP 0 rfl rfl 1 (by decide) (hts (.fieldLink RX4 34 "NetHouse$Markings" "former" "[I") (by decide +kernel)) (fun _ h9 => h9) rfl dX4_depthOf_20 ?_
        refine lv_iload_n hx hb dX4_depthOf_23 rfl (lv_at hl 2 rfl) ?_
        refine va_iald hx hb hK hP 1 0 rfl rfl hw.1 dX4_depthOf_24 ?_
        have hw := hw.2
        refine lv_topi (fun x6 ex6 => ?_)
        have hw := hw x6 ex6
        refine lv_istore_n (lv' := [(3, .int x6), (2, .int x5), (0, .ref h_p0)]) hx hb dX4_depthOf_25 rfl hl (by decide) rfl (fun ls hl => ?_)
        refine lv_goto (tgt := 4) hx hb dX4_depthOf_26 (by decide) ?_
        exact ih _ _ hw _ _ _ hP hD hS (lv_sub hl [2, 1, 0] rfl)
set_option maxHeartbeats 4000000 in
set_option maxRecDepth 100000 in
theorem c_X4_depthOf {l : Launch} {dC : Nat → ClassId} {dI : Nat → Nat → Nat} {sz : Nat} {cI cJ cZ : ClassId} {h_p0 : Nat} {ad_p0 : Nat → Nat} {n_p0 : Nat} {p0_width : Int32} {p0_size : Int32} {p0_former : Nat → Int32} {a1 : Int32} {post : Int32 → Prop} (hw : w_X4_depthOf n_p0 p0_size p0_former a1 post) : Met l yX4_depthOf wsX4_depthOf ({ frames := 0, cells := 0, slots := 0, locals := 0 }) (va_Pc [.ref h_p0, .int a1] (xPre (dC, dI) cI cJ cZ (wld_X4_depthOf cI cJ cZ h_p0 ad_p0 n_p0 p0_width p0_size p0_former) sz)) (q_X4_depthOf dC dI cI cJ cZ h_p0 ad_p0 n_p0 p0_width p0_size p0_former post (va_A (wld_X4_depthOf cI cJ cZ h_p0 ad_p0 n_p0 p0_width p0_size p0_former) sz)) 0 0 (va_A (wld_X4_depthOf cI cJ cZ h_p0 ad_p0 n_p0 p0_width p0_size p0_former) sz) := by
  refine x_met (cc := cX4_depthOf) (maxL := 4) (ret := (some .int)) (own := RX4) (Qc := fun A => (q_X4_depthOf dC dI cI cJ cZ h_p0 ad_p0 n_p0 p0_width p0_size p0_former post A)) (by decide) rfl rfl (Nat.le_of_ble_eq_true rfl) ?_
  intro p e s m args below meth c A ls E0 hP hD hS hl
  obtain ⟨hx, hb, hr, hml, hown, hts, hlocks, hK, hA, n1, n2⟩ := id E0
  have iX4 : ∀ w ∈ u_ws RX4 TX4 7, w ∈ wsX4_depthOf := fun w h => List.mem_cons_of_mem _ (List.mem_append_right _ h)
  have hS0 := hS
  have hl : lv_has ls 4 [(0, .ref h_p0), (1, .int a1)] := hl
  unfold w_X4_depthOf at hw
  obtain ⟨H, hH⟩ : ∃ H, H = s.heap := ⟨_, rfl⟩
  have hS : va_S A s.heap H [] := by rw [hH]; exact hS
  have hP : va_P (dC, dI) vwCl (wld_X4_depthOf cI cJ cZ h_p0 ad_p0 n_p0 p0_width p0_size p0_former) H := by rw [hH]; exact hP
  suffices hG : W p l e ({ frames := 0, cells := 0, slots := 0, locals := 0 }) s m args below meth c H [] 0 0 (MQ below (q_X4_depthOf dC dI cI cJ cZ h_p0 ad_p0 n_p0 p0_width p0_size p0_former post A) args s 0 0 A) (F0 m 0 ls []) by rw [hH] at hG; exact hG
  clear hH
  refine lv_iconst (v := 0) hx hb dX4_depthOf_0 (by decide) ?_
  refine lv_istore_n (lv' := [(2, .int (0 : Int32)), (0, .ref h_p0), (1, .int a1)]) hx hb dX4_depthOf_1 rfl hl (by decide) rfl (fun ls hl => ?_)
  refine lv_iload_n hx hb dX4_depthOf_2 rfl (lv_at hl 2 rfl) ?_
  refine lv_istore_n (lv' := [(3, .int a1), (2, .int (0 : Int32)), (0, .ref h_p0), (1, .int a1)]) hx hb dX4_depthOf_3 rfl hl (by decide) rfl (fun ls hl => ?_)
  obtain ⟨n7, hw⟩ := hw
  refine c_X4_depthOf_L4 (l := l)  E0 ?_ n7 _ _ hw _ _ _ hP hD hS (lv_sub hl [2, 1, 0] rfl)
  · intro v8 v9 H locs ls hw hP hD hS hl
    have hP : va_P (dC, dI) vwCl (wld_X4_depthOf cI cJ cZ h_p0 ad_p0 n_p0 p0_width p0_size p0_former) H := hP
    have hD : va_D A (wld_X4_depthOf cI cJ cZ h_p0 ad_p0 n_p0 p0_width p0_size p0_former) := hD
    refine lv_iload_n hx hb dX4_depthOf_29 rfl (lv_at hl 0 rfl) ?_
    exact x_iret (w1 := fun (u : Unit) => (wld_X4_depthOf cI cJ cZ h_p0 ad_p0 n_p0 p0_width p0_size p0_former)) hx hb hr hlocks () hw hP hD hS dX4_depthOf_30
abbrev wld_X4_retrace (cI cJ cZ : ClassId) (h_p0 : Nat) (h_p2 : Nat) (ad_p0 : Nat → Nat) (ad_p2 : Nat → Nat) (n_p0 : Nat) (p0_width : Int32) (p0_size : Int32) (p2_rowSize : Int32) (p2_waySize : Int32) (p0_by : Nat → Int32) (p0_former : Nat → Int32) (p2_way : Nat → Int32) : va_W := [(h_p0, .inr (4, [.ref (ad_p0 0), .ref (ad_p0 1), .ref (ad_p0 2), .ref (ad_p0 3), .ref (ad_p0 4), .int p0_width, .int p0_size])), ((ad_p0 2), .inl (cI, n_p0, .inl p0_by)), ((ad_p0 1), .inl (cI, n_p0, .inl p0_former)), (h_p2, .inr (2, [.ref (ad_p2 0), .ref (ad_p2 1), .int p2_rowSize, .int p2_waySize])), ((ad_p2 1), .inl (cI, 8000, .inl p2_way))]
abbrev q_X4_retrace (dC : Nat → ClassId) (dI : Nat → Nat → Nat) (cI cJ cZ : ClassId) (h_p0 : Nat) (h_p2 : Nat) (ad_p0 : Nat → Nat) (ad_p2 : Nat → Nat) (n_p0 : Nat) (p0_width : Int32) (p0_size : Int32) (p2_rowSize : Int32) (p2_waySize : Int32) (p0_by : Nat → Int32) (p0_former : Nat → Int32) (p2_way : Nat → Int32) (post : (Int32) → (Nat → Int32) → Prop) (A : Nat → Prop) : Array Value → State → Outcome → State → Prop := va_Qv (fun (u : (Int32) × (Nat → Int32)) => post (u.1) (u.2)) (fun (u : (Int32) × (Nat → Int32)) t => xPost (dC, dI) A (wld_X4_retrace cI cJ cZ h_p0 h_p2 ad_p0 ad_p2 n_p0 p0_width p0_size p2_rowSize (u.1) p0_by p0_former (u.2)) t) A
def w_X4_retrace_L19b (n_p0 : Nat) (p0_size : Int32) (p2_waySize : Int32) (p0_by : Nat → Int32) (p0_former : Nat → Int32) (post : (Int32) → (Nat → Int32) → Prop) (K : (Int32) → (Int32) → (Nat → Int32) → Prop) (rec : (Int32) → (Int32) → (Nat → Int32) → Prop) (v4 : Int32) (v5 : Int32) (p2_way : Nat → Int32) : Prop :=
    (v5 < 0 →
      K v4 v5 p2_way) ∧
    (¬ v5 < 0 →
      vp_in v4 n_p0 ∧
      vp_in v5 8000 ∧
      vp_in v4 n_p0 ∧
      ∀ x5 : Int32, x5 = (p0_former v4.toNatClampNeg) →
      ∀ x6 : Int32, x6 = v5 + (-1 : Int32) →
      rec x5 x6 (upd p2_way v5.toNatClampNeg (p0_by v4.toNatClampNeg)))
def w_X4_retrace_L19 (n_p0 : Nat) (p0_size : Int32) (p2_waySize : Int32) (p0_by : Nat → Int32) (p0_former : Nat → Int32) (post : (Int32) → (Nat → Int32) → Prop) (K : (Int32) → (Int32) → (Nat → Int32) → Prop) : Nat → (Int32) → (Int32) → (Nat → Int32) → Prop
  | 0, _, _, _ => False
  | n + 1, v4, v5, p2_way => w_X4_retrace_L19b n_p0 p0_size p2_waySize p0_by p0_former post K (w_X4_retrace_L19 n_p0 p0_size p2_waySize p0_by p0_former post K n) v4 v5 p2_way
def w_X4_retrace (n_p0 : Nat) (p0_size : Int32) (p2_waySize : Int32) (p0_by : Nat → Int32) (p0_former : Nat → Int32) (p2_way : Nat → Int32) (a1 : Int32) (post : (Int32) → (Nat → Int32) → Prop) : Prop :=
  w_X4_depthOf n_p0 p0_size p0_former a1 (fun r1 =>
  ∀ x2 : Int32, x2 = (r1 - (1 : Int32)) →
  ∃ n : Nat, w_X4_retrace_L19 n_p0 p0_size r1 p0_by p0_former post (fun v8 v9 s10 =>
      (post r1 s10)) n a1 x2 p2_way)
set_option maxHeartbeats 4000000 in
set_option maxRecDepth 100000 in
theorem c_X4_retrace_L19 {p : Program} {l : Launch} {e : Env} {s : State} {m : MethodId} {args : Array Value} {below : List Frame} {meth : Method} {c : Code} {dC : Nat → ClassId} {dI : Nat → Nat → Nat} {A : Nat → Prop} {cI cJ cZ : ClassId} {h_p0 : Nat} {h_p2 : Nat} {ad_p0 : Nat → Nat} {ad_p2 : Nat → Nat} {n_p0 : Nat} {p0_width : Int32} {p0_size : Int32} {p2_rowSize : Int32} {p2_waySize : Int32} {p0_by : Nat → Int32} {p0_former : Nat → Int32} {z_p2_way : Nat → Int32} {post : (Int32) → (Nat → Int32) → Prop} {K : (Int32) → (Int32) → (Nat → Int32) → Prop} (E0 : xEnv p s m args meth c cX4_retrace none 6 RX4 wsX4_retrace (dC, dI) cI cJ cZ A) (hk : ∀ (v4 : Int32) (v5 : Int32) (p2_way : Nat → Int32) (H : Heap) (locs : List Loc) (ls : Array Slot), K v4 v5 p2_way → va_P (dC, dI) vwCl (wld_X4_retrace cI cJ cZ h_p0 h_p2 ad_p0 ad_p2 n_p0 p0_width p0_size p2_rowSize p2_waySize p0_by p0_former p2_way) H → va_D A (wld_X4_retrace cI cJ cZ h_p0 h_p2 ad_p0 ad_p2 n_p0 p0_width p0_size p2_rowSize p2_waySize p0_by p0_former p2_way) → va_S A s.heap H locs → lv_has ls 6 [] → W p l e ({ frames := 1, cells := 0, slots := 0, locals := 23 }) s m args below meth c H locs 0 0 (MQ below (q_X4_retrace dC dI cI cJ cZ h_p0 h_p2 ad_p0 ad_p2 n_p0 p0_width p0_size p2_rowSize p2_waySize p0_by p0_former z_p2_way post A) args s 0 0 A) (F0 m 53 ls [])) : ∀ (n : Nat) (v4 : Int32) (v5 : Int32) (p2_way : Nat → Int32), w_X4_retrace_L19 n_p0 p0_size p2_waySize p0_by p0_former post K n v4 v5 p2_way → ∀ (H : Heap) (locs : List Loc) (ls : Array Slot), va_P (dC, dI) vwCl (wld_X4_retrace cI cJ cZ h_p0 h_p2 ad_p0 ad_p2 n_p0 p0_width p0_size p2_rowSize p2_waySize p0_by p0_former p2_way) H → va_D A (wld_X4_retrace cI cJ cZ h_p0 h_p2 ad_p0 ad_p2 n_p0 p0_width p0_size p2_rowSize p2_waySize p0_by p0_former p2_way) → va_S A s.heap H locs → lv_has ls 6 [(0, .ref h_p0), (2, .ref h_p2), (4, .int v4), (5, .int v5)] → W p l e ({ frames := 1, cells := 0, slots := 0, locals := 23 }) s m args below meth c H locs 0 0 (MQ below (q_X4_retrace dC dI cI cJ cZ h_p0 h_p2 ad_p0 ad_p2 n_p0 p0_width p0_size p2_rowSize p2_waySize p0_by p0_former z_p2_way post A) args s 0 0 A) (F0 m 19 ls []) := by
  obtain ⟨hx, hb, hr, hml, hown, hts, hlocks, hK, hA, n1, n2⟩ := id E0
  have iX2 : ∀ w ∈ u_ws RX2 TX2 4, w ∈ wsX4_retrace := fun w h => List.mem_cons_of_mem _ (List.mem_append_left _ (List.mem_append_right _ h))
  have iX4 : ∀ w ∈ u_ws RX4 TX4 7, w ∈ wsX4_retrace := fun w h => List.mem_cons_of_mem _ (List.mem_append_right _ h)
  intro n
  induction n with
  | zero => intro v4 v5 p2_way hw; exact hw.elim
  | succ n ih =>
    intro v4 v5 p2_way hw H locs ls hP hD hS hl
    have hw : w_X4_retrace_L19b n_p0 p0_size p2_waySize p0_by p0_former post K (w_X4_retrace_L19 n_p0 p0_size p2_waySize p0_by p0_former post K n) v4 v5 p2_way := hw
    unfold w_X4_retrace_L19b at hw
    refine lv_iload hx hb dX4_retrace_19 (lv_at hl 3 rfl) ?_
    refine lv_if_lt (tgt := 53) hx hb dX4_retrace_21 (by decide) (fun c3 => ?_) (fun c4 => ?_)
    · have hw := hw.1 c3
      exact hk _ _ _ _ _ _ hw hP hD hS (lv_sub hl [] rfl)
    · have hw := hw.2 c4
      refine lv_aload_n hx hb dX4_retrace_24 rfl (lv_at hl 1 rfl) ?_
      refine va_get (D := (dC, dI)) (ci := 2) (v := .ref (ad_p2 1)) (C := RX2) (T := TX2) (N := 4) hx hb hts iX2 hown hK hP 3 rfl rfl 1 (by decide) (hts (.fieldLink RX4 81 "NetHouse$Hand" "way" "[I") (by decide +kernel)) (fun _ h9 => h9) rfl dX4_retrace_25 ?_
      refine lv_iload hx hb dX4_retrace_28 (lv_at hl 3 rfl) ?_
      refine lv_aload_n hx hb dX4_retrace_30 rfl (lv_at hl 0 rfl) ?_
      refine va_get (D := (dC, dI)) (ci := 4) (v := .ref (ad_p0 2)) (C := RX4) (T := TX4) (N := 7) hx hb hts iX4 hown hK hP 0 rfl rfl 2 (by decide) (hts (.fieldLink RX4 37 "NetHouse$Markings" "by" "[I") (by decide +kernel)) (fun _ h9 => h9) rfl dX4_retrace_31 ?_
      refine lv_iload hx hb dX4_retrace_34 (lv_at hl 2 rfl) ?_
      refine va_iald hx hb hK hP 1 0 rfl rfl hw.1 dX4_retrace_36 ?_
      have hw := hw.2
      refine va_iast hx hb hK hP hD hS 4 0 rfl rfl hw.1 dX4_retrace_37 (fun H locs hP hD hS => ?_)
      have hw := hw.2
      have hP : va_P (dC, dI) vwCl (wld_X4_retrace cI cJ cZ h_p0 h_p2 ad_p0 ad_p2 n_p0 p0_width p0_size p2_rowSize p2_waySize p0_by p0_former (upd p2_way v5.toNatClampNeg (p0_by v4.toNatClampNeg))) H := hP
      have hD : va_D A (wld_X4_retrace cI cJ cZ h_p0 h_p2 ad_p0 ad_p2 n_p0 p0_width p0_size p2_rowSize p2_waySize p0_by p0_former (upd p2_way v5.toNatClampNeg (p0_by v4.toNatClampNeg))) := hD
      refine lv_aload_n hx hb dX4_retrace_38 rfl (lv_at hl 0 rfl) ?_
      refine va_get (D := (dC, dI)) (ci := 4) (v := .ref (ad_p0 1)) (C := RX4) (T := TX4) (N := 7) hx hb hts iX4 hown hK hP 0 rfl rfl 1 (by decide) (hts (.fieldLink RX4 34 "NetHouse$Markings" "former" "[I") (by decide +kernel)) (fun _ h9 => h9) rfl dX4_retrace_39 ?_
      refine lv_iload hx hb dX4_retrace_42 (lv_at hl 2 rfl) ?_
      refine va_iald hx hb hK hP 2 0 rfl rfl hw.1 dX4_retrace_44 ?_
      have hw := hw.2
      refine lv_topi (fun x5 ex5 => ?_)
      have hw := hw x5 ex5
      refine lv_istore (lv' := [(4, .int x5), (0, .ref h_p0), (2, .ref h_p2), (5, .int v5)]) hx hb dX4_retrace_45 hl (by decide) rfl (fun ls hl => ?_)
      obtain ⟨x6, ex6⟩ : ∃ y : Int32, y = v5 + (-1 : Int32) := ⟨_, rfl⟩
      have hw := hw x6 ex6
      refine lv_iinc (v := x6) (lv' := [(5, .int x6), (4, .int x5), (0, .ref h_p0), (2, .ref h_p2)]) hx hb dX4_retrace_47 hl (k := 3) rfl (by rw [ex6]; rfl) (by decide) rfl (fun ls hl => ?_)
      refine lv_goto (tgt := 19) hx hb dX4_retrace_50 (by decide) ?_
      exact ih _ _ _ hw _ _ _ hP hD hS (lv_sub hl [2, 3, 1, 0] rfl)
set_option maxHeartbeats 4000000 in
set_option maxRecDepth 100000 in
theorem c_X4_retrace {l : Launch} {dC : Nat → ClassId} {dI : Nat → Nat → Nat} {sz : Nat} {cI cJ cZ : ClassId} {h_p0 : Nat} {h_p2 : Nat} {ad_p0 : Nat → Nat} {ad_p2 : Nat → Nat} {n_p0 : Nat} {p0_width : Int32} {p0_size : Int32} {p2_rowSize : Int32} {p2_waySize : Int32} {p0_by : Nat → Int32} {p0_former : Nat → Int32} {p2_way : Nat → Int32} {a1 : Int32} {post : (Int32) → (Nat → Int32) → Prop} (hw : w_X4_retrace n_p0 p0_size p2_waySize p0_by p0_former p2_way a1 post) : Met l yX4_retrace wsX4_retrace ({ frames := 1, cells := 0, slots := 0, locals := 23 }) (va_Pc [.ref h_p0, .int a1, .ref h_p2] (xPre (dC, dI) cI cJ cZ (wld_X4_retrace cI cJ cZ h_p0 h_p2 ad_p0 ad_p2 n_p0 p0_width p0_size p2_rowSize p2_waySize p0_by p0_former p2_way) sz)) (q_X4_retrace dC dI cI cJ cZ h_p0 h_p2 ad_p0 ad_p2 n_p0 p0_width p0_size p2_rowSize p2_waySize p0_by p0_former p2_way post (va_A (wld_X4_retrace cI cJ cZ h_p0 h_p2 ad_p0 ad_p2 n_p0 p0_width p0_size p2_rowSize p2_waySize p0_by p0_former p2_way) sz)) 0 0 (va_A (wld_X4_retrace cI cJ cZ h_p0 h_p2 ad_p0 ad_p2 n_p0 p0_width p0_size p2_rowSize p2_waySize p0_by p0_former p2_way) sz) := by
  refine x_met (cc := cX4_retrace) (maxL := 6) (ret := none) (own := RX4) (Qc := fun A => (q_X4_retrace dC dI cI cJ cZ h_p0 h_p2 ad_p0 ad_p2 n_p0 p0_width p0_size p2_rowSize p2_waySize p0_by p0_former p2_way post A)) (by decide) rfl rfl (Nat.le_of_ble_eq_true rfl) ?_
  intro p e s m args below meth c A ls E0 hP hD hS hl
  obtain ⟨hx, hb, hr, hml, hown, hts, hlocks, hK, hA, n1, n2⟩ := id E0
  have iX2 : ∀ w ∈ u_ws RX2 TX2 4, w ∈ wsX4_retrace := fun w h => List.mem_cons_of_mem _ (List.mem_append_left _ (List.mem_append_right _ h))
  have iX4 : ∀ w ∈ u_ws RX4 TX4 7, w ∈ wsX4_retrace := fun w h => List.mem_cons_of_mem _ (List.mem_append_right _ h)
  have hS0 := hS
  have hl : lv_has ls 6 [(0, .ref h_p0), (1, .int a1), (2, .ref h_p2)] := hl
  unfold w_X4_retrace at hw
  obtain ⟨H, hH⟩ : ∃ H, H = s.heap := ⟨_, rfl⟩
  have hS : va_S A s.heap H [] := by rw [hH]; exact hS
  have hP : va_P (dC, dI) vwCl (wld_X4_retrace cI cJ cZ h_p0 h_p2 ad_p0 ad_p2 n_p0 p0_width p0_size p2_rowSize p2_waySize p0_by p0_former p2_way) H := by rw [hH]; exact hP
  suffices hG : W p l e ({ frames := 1, cells := 0, slots := 0, locals := 23 }) s m args below meth c H [] 0 0 (MQ below (q_X4_retrace dC dI cI cJ cZ h_p0 h_p2 ad_p0 ad_p2 n_p0 p0_width p0_size p2_rowSize p2_waySize p0_by p0_former p2_way post A) args s 0 0 A) (F0 m 0 ls []) by rw [hH] at hG; exact hG
  clear hH
  refine lv_aload_n hx hb dX4_retrace_0 rfl (lv_at hl 0 rfl) ?_
  refine lv_iload_n hx hb dX4_retrace_1 rfl (lv_at hl 1 rfl) ?_
  obtain ⟨hPc, hDc⟩ := x_sub (wc := (wld_X4_depthOf cI cJ cZ h_p0 ad_p0 n_p0 p0_width p0_size p0_former)) hP hD [0, 2] (n := 5) rfl rfl (by decide +kernel)
  refine x_calli (ws' := fun (u : Unit) => (wld_X4_retrace cI cJ cZ h_p0 h_p2 ad_p0 ad_p2 n_p0 p0_width p0_size p2_rowSize p2_waySize p0_by p0_former p2_way)) hP hD hS hA [0, 2] [1, 3, 4] [3, 0, 4, 1, 2] (n := 5) (k := 2) rfl (fun _ => rfl) rfl (by decide +kernel) (fun _ => rfl) (va_runV (As := [.int a1]) (rest := []) ⟨hx, hb, hml, hown, hts⟩ (c_X4_depthOf (l := l) (dC := dC) (dI := dI) (cI := cI) (cJ := cJ) (cZ := cZ) (sz := H.size) (h_p0 := h_p0) (ad_p0 := ad_p0) (n_p0 := n_p0) (p0_width := p0_width) (p0_size := p0_size) (p0_former := p0_former) hw) (cwV 1 hts gX4_retrace_X4_depthOf rfl rfl rfl (by decide +kernel) ⟨Nat.le_of_ble_eq_true rfl, Nat.le_of_ble_eq_true rfl⟩) ⟨xPre_blind, va_recv hK hP (ci := 4) (q0 := 0) rfl rfl, xPre_at hK hPc hDc n1 n2⟩ rfl rfl hl.1 rfl (lv_room (Nat.le_of_ble_eq_true rfl)) dX4_retrace_2 ⟨Nat.zero_le _, Nat.zero_le _⟩) (fun r1 u H locs hw hP hD hS => ?_)
  try dsimp only at hw
  have hP : va_P (dC, dI) vwCl (wld_X4_retrace cI cJ cZ h_p0 h_p2 ad_p0 ad_p2 n_p0 p0_width p0_size p2_rowSize p2_waySize p0_by p0_former p2_way) H := hP
  have hD : va_D A (wld_X4_retrace cI cJ cZ h_p0 h_p2 ad_p0 ad_p2 n_p0 p0_width p0_size p2_rowSize p2_waySize p0_by p0_former p2_way) := hD
  refine lv_istore_n (lv' := [(3, .int r1), (0, .ref h_p0), (1, .int a1), (2, .ref h_p2)]) hx hb dX4_retrace_5 rfl hl (by decide) rfl (fun ls hl => ?_)
  refine lv_aload_n hx hb dX4_retrace_6 rfl (lv_at hl 3 rfl) ?_
  refine lv_iload_n hx hb dX4_retrace_7 rfl (lv_at hl 0 rfl) ?_
  refine va_put (D := (dC, dI)) (ci := 2) (v := .int r1) (ty := .int) (C := RX2) (T := TX2) (N := 4) hx hb hts iX2 tyX2 tyX2_ok nmX2 hown hK hP hD hS 3 rfl rfl 3 (by decide) (hts (.fieldLink RX4 76 "NetHouse$Hand" "waySize" "I") (by decide +kernel)) (fun _ h9 => h9) rfl (by decide +kernel) rfl rfl (Nat.le_of_ble_eq_true rfl) dX4_retrace_8 (fun H locs hP hD hS => ?_)
  have hP : va_P (dC, dI) vwCl (wld_X4_retrace cI cJ cZ h_p0 h_p2 ad_p0 ad_p2 n_p0 p0_width p0_size p2_rowSize r1 p0_by p0_former p2_way) H := hP
  have hD : va_D A (wld_X4_retrace cI cJ cZ h_p0 h_p2 ad_p0 ad_p2 n_p0 p0_width p0_size p2_rowSize r1 p0_by p0_former p2_way) := hD
  refine lv_iload_n hx hb dX4_retrace_11 rfl (lv_at hl 2 rfl) ?_
  refine lv_istore (lv' := [(4, .int a1), (3, .int r1), (0, .ref h_p0), (1, .int a1), (2, .ref h_p2)]) hx hb dX4_retrace_12 hl (by decide) rfl (fun ls hl => ?_)
  refine lv_iload_n hx hb dX4_retrace_14 rfl (lv_at hl 1 rfl) ?_
  refine lv_iconst (v := 1) hx hb dX4_retrace_15 (by decide) ?_
  refine lv_isub hx hb dX4_retrace_16 ?_
  refine lv_topi (fun x2 ex2 => ?_)
  have hw := hw x2 ex2
  refine lv_istore (lv' := [(5, .int x2), (4, .int a1), (3, .int r1), (0, .ref h_p0), (1, .int a1), (2, .ref h_p2)]) hx hb dX4_retrace_17 hl (by decide) rfl (fun ls hl => ?_)
  obtain ⟨n7, hw⟩ := hw
  refine c_X4_retrace_L19 (l := l) (z_p2_way := p2_way) E0 ?_ n7 _ _ _ hw _ _ _ hP hD hS (lv_sub hl [3, 5, 1, 0] rfl)
  · intro v8 v9 s10 H locs ls hw hP hD hS hl
    have hP : va_P (dC, dI) vwCl (wld_X4_retrace cI cJ cZ h_p0 h_p2 ad_p0 ad_p2 n_p0 p0_width p0_size p2_rowSize r1 p0_by p0_former s10) H := hP
    have hD : va_D A (wld_X4_retrace cI cJ cZ h_p0 h_p2 ad_p0 ad_p2 n_p0 p0_width p0_size p2_rowSize r1 p0_by p0_former s10) := hD
    exact x_vret (w1 := fun (u : (Int32) × (Nat → Int32)) => (wld_X4_retrace cI cJ cZ h_p0 h_p2 ad_p0 ad_p2 n_p0 p0_width p0_size p2_rowSize (u.1) p0_by p0_former (u.2))) hx hb hr hlocks (r1, s10) hw hP hD hS dX4_retrace_53
abbrev wld_X5_addPlace (cI cJ cZ : ClassId) (h_p0 : Nat) (ad_p0 : Nat → Nat) (p0_places : Int32) (p0_steps : Int32) (p0_coloured : Int32) (p0_placeKinds : Nat → Int32) : va_W := [(h_p0, .inr (5, [.ref (ad_p0 0), .ref (ad_p0 1), .ref (ad_p0 2), .ref (ad_p0 3), .ref (ad_p0 4), .ref (ad_p0 5), .ref (ad_p0 6), .ref (ad_p0 7), .ref (ad_p0 8), .ref (ad_p0 9), .ref (ad_p0 10), .int p0_places, .int p0_steps, .int p0_coloured])), ((ad_p0 0), .inl (cI, 16, .inl p0_placeKinds))]
abbrev q_X5_addPlace (dC : Nat → ClassId) (dI : Nat → Nat → Nat) (cI cJ cZ : ClassId) (h_p0 : Nat) (ad_p0 : Nat → Nat) (p0_places : Int32) (p0_steps : Int32) (p0_coloured : Int32) (p0_placeKinds : Nat → Int32) (post : (Int32) → (Int32) → (Nat → Int32) → Prop) (A : Nat → Prop) : Array Value → State → Outcome → State → Prop := va_Qv (fun (u : (Int32) × (Int32) × (Nat → Int32)) => post (u.1) (u.2.1) (u.2.2)) (fun (u : (Int32) × (Int32) × (Nat → Int32)) t => xPost (dC, dI) A (wld_X5_addPlace cI cJ cZ h_p0 ad_p0 (u.2.1) p0_steps (u.1) (u.2.2)) t) A
def w_X5_addPlace (p0_coloured : Int32) (p0_places : Int32) (p0_placeKinds : Nat → Int32) (a1 : Int32) (post : (Int32) → (Int32) → (Nat → Int32) → Prop) : Prop :=
  vp_in p0_places 16 ∧
  ∀ x1 : Int32, x1 = (p0_places + (1 : Int32)) →
  (¬ a1 = (1 : Int32) →
    ∀ x4 : Int32, x4 = (p0_coloured + (0 : Int32)) →
    (post x4 x1 (upd p0_placeKinds p0_places.toNatClampNeg a1))) ∧
  (a1 = (1 : Int32) →
    ∀ x5 : Int32, x5 = (p0_coloured + (1 : Int32)) →
    (post x5 x1 (upd p0_placeKinds p0_places.toNatClampNeg a1)))
set_option maxHeartbeats 4000000 in
set_option maxRecDepth 100000 in
theorem c_X5_addPlace {l : Launch} {dC : Nat → ClassId} {dI : Nat → Nat → Nat} {sz : Nat} {cI cJ cZ : ClassId} {h_p0 : Nat} {ad_p0 : Nat → Nat} {p0_places : Int32} {p0_steps : Int32} {p0_coloured : Int32} {p0_placeKinds : Nat → Int32} {a1 : Int32} {post : (Int32) → (Int32) → (Nat → Int32) → Prop} (hw : w_X5_addPlace p0_coloured p0_places p0_placeKinds a1 post) : Met l yX5_addPlace wsX5_addPlace ({ frames := 0, cells := 0, slots := 0, locals := 0 }) (va_Pc [.ref h_p0, .int a1] (xPre (dC, dI) cI cJ cZ (wld_X5_addPlace cI cJ cZ h_p0 ad_p0 p0_places p0_steps p0_coloured p0_placeKinds) sz)) (q_X5_addPlace dC dI cI cJ cZ h_p0 ad_p0 p0_places p0_steps p0_coloured p0_placeKinds post (va_A (wld_X5_addPlace cI cJ cZ h_p0 ad_p0 p0_places p0_steps p0_coloured p0_placeKinds) sz)) 0 0 (va_A (wld_X5_addPlace cI cJ cZ h_p0 ad_p0 p0_places p0_steps p0_coloured p0_placeKinds) sz) := by
  refine x_met (cc := cX5_addPlace) (maxL := 2) (ret := none) (own := RX5) (Qc := fun A => (q_X5_addPlace dC dI cI cJ cZ h_p0 ad_p0 p0_places p0_steps p0_coloured p0_placeKinds post A)) (by decide) rfl rfl (Nat.le_of_ble_eq_true rfl) ?_
  intro p e s m args below meth c A ls E0 hP hD hS hl
  obtain ⟨hx, hb, hr, hml, hown, hts, hlocks, hK, hA, n1, n2⟩ := id E0
  have iX5 : ∀ w ∈ u_ws RX5 TX5 14, w ∈ wsX5_addPlace := fun w h => List.mem_cons_of_mem _ (List.mem_append_right _ h)
  have hS0 := hS
  have hl : lv_has ls 2 [(0, .ref h_p0), (1, .int a1)] := hl
  unfold w_X5_addPlace at hw
  obtain ⟨H, hH⟩ : ∃ H, H = s.heap := ⟨_, rfl⟩
  have hS : va_S A s.heap H [] := by rw [hH]; exact hS
  have hP : va_P (dC, dI) vwCl (wld_X5_addPlace cI cJ cZ h_p0 ad_p0 p0_places p0_steps p0_coloured p0_placeKinds) H := by rw [hH]; exact hP
  suffices hG : W p l e ({ frames := 0, cells := 0, slots := 0, locals := 0 }) s m args below meth c H [] 0 0 (MQ below (q_X5_addPlace dC dI cI cJ cZ h_p0 ad_p0 p0_places p0_steps p0_coloured p0_placeKinds post A) args s 0 0 A) (F0 m 0 ls []) by rw [hH] at hG; exact hG
  clear hH
  refine lv_aload_n hx hb dX5_addPlace_0 rfl (lv_at hl 0 rfl) ?_
  refine va_get (D := (dC, dI)) (ci := 5) (v := .ref (ad_p0 0)) (C := RX5) (T := TX5) (N := 14) hx hb hts iX5 hown hK hP 0 rfl rfl 0 (by decide) (hts (.fieldLink RX5 9 "NetHouse$Net" "placeKinds" "[I") (by decide +kernel)) (fun _ h9 => h9) rfl dX5_addPlace_1 ?_
  refine lv_aload_n hx hb dX5_addPlace_4 rfl (lv_at hl 0 rfl) ?_
  refine va_get (D := (dC, dI)) (ci := 5) (v := .int p0_places) (C := RX5) (T := TX5) (N := 14) hx hb hts iX5 hown hK hP 0 rfl rfl 11 (by decide) (hts (.fieldLink RX5 45 "NetHouse$Net" "places" "I") (by decide +kernel)) (fun _ h9 => h9) rfl dX5_addPlace_5 ?_
  refine lv_iload_n hx hb dX5_addPlace_8 rfl (lv_at hl 1 rfl) ?_
  refine va_iast hx hb hK hP hD hS 1 0 rfl rfl hw.1 dX5_addPlace_9 (fun H locs hP hD hS => ?_)
  have hw := hw.2
  have hP : va_P (dC, dI) vwCl (wld_X5_addPlace cI cJ cZ h_p0 ad_p0 p0_places p0_steps p0_coloured (upd p0_placeKinds p0_places.toNatClampNeg a1)) H := hP
  have hD : va_D A (wld_X5_addPlace cI cJ cZ h_p0 ad_p0 p0_places p0_steps p0_coloured (upd p0_placeKinds p0_places.toNatClampNeg a1)) := hD
  refine lv_aload_n hx hb dX5_addPlace_10 rfl (lv_at hl 0 rfl) ?_
  refine lv_dup hx hb dX5_addPlace_11 rfl ?_
  refine va_get (D := (dC, dI)) (ci := 5) (v := .int p0_places) (C := RX5) (T := TX5) (N := 14) hx hb hts iX5 hown hK hP 0 rfl rfl 11 (by decide) (hts (.fieldLink RX5 45 "NetHouse$Net" "places" "I") (by decide +kernel)) (fun _ h9 => h9) rfl dX5_addPlace_12 ?_
  refine lv_iconst (v := 1) hx hb dX5_addPlace_15 (by decide) ?_
  refine lv_iadd hx hb dX5_addPlace_16 ?_
  refine lv_topi (fun x1 ex1 => ?_)
  have hw := hw x1 ex1
  refine va_put (D := (dC, dI)) (ci := 5) (v := .int x1) (ty := .int) (C := RX5) (T := TX5) (N := 14) hx hb hts iX5 tyX5 tyX5_ok nmX5 hown hK hP hD hS 0 rfl rfl 11 (by decide) (hts (.fieldLink RX5 45 "NetHouse$Net" "places" "I") (by decide +kernel)) (fun _ h9 => h9) rfl (by decide +kernel) rfl rfl (Nat.le_of_ble_eq_true rfl) dX5_addPlace_17 (fun H locs hP hD hS => ?_)
  have hP : va_P (dC, dI) vwCl (wld_X5_addPlace cI cJ cZ h_p0 ad_p0 x1 p0_steps p0_coloured (upd p0_placeKinds p0_places.toNatClampNeg a1)) H := hP
  have hD : va_D A (wld_X5_addPlace cI cJ cZ h_p0 ad_p0 x1 p0_steps p0_coloured (upd p0_placeKinds p0_places.toNatClampNeg a1)) := hD
  refine lv_aload_n hx hb dX5_addPlace_20 rfl (lv_at hl 0 rfl) ?_
  refine lv_dup hx hb dX5_addPlace_21 rfl ?_
  refine va_get (D := (dC, dI)) (ci := 5) (v := .int p0_coloured) (C := RX5) (T := TX5) (N := 14) hx hb hts iX5 hown hK hP 0 rfl rfl 13 (by decide) (hts (.fieldLink RX5 52 "NetHouse$Net" "coloured" "I") (by decide +kernel)) (fun _ h9 => h9) rfl dX5_addPlace_22 ?_
  refine lv_iload_n hx hb dX5_addPlace_25 rfl (lv_at hl 1 rfl) ?_
  refine lv_iconst (v := 1) hx hb dX5_addPlace_26 (by decide) ?_
  refine lv_icmp_ne (tgt := 34) hx hb dX5_addPlace_27 (by decide) (fun c2 => ?_) (fun c3 => ?_)
  · have hw := hw.1 c2
    refine lv_iconst (v := 0) hx hb dX5_addPlace_34 (by decide) ?_
    refine lv_iadd hx hb dX5_addPlace_35 ?_
    refine lv_topi (fun x4 ex4 => ?_)
    have hw := hw x4 ex4
    refine va_put (D := (dC, dI)) (ci := 5) (v := .int x4) (ty := .int) (C := RX5) (T := TX5) (N := 14) hx hb hts iX5 tyX5 tyX5_ok nmX5 hown hK hP hD hS 0 rfl rfl 13 (by decide) (hts (.fieldLink RX5 52 "NetHouse$Net" "coloured" "I") (by decide +kernel)) (fun _ h9 => h9) rfl (by decide +kernel) rfl rfl (Nat.le_of_ble_eq_true rfl) dX5_addPlace_36 (fun H locs hP hD hS => ?_)
    have hP : va_P (dC, dI) vwCl (wld_X5_addPlace cI cJ cZ h_p0 ad_p0 x1 p0_steps x4 (upd p0_placeKinds p0_places.toNatClampNeg a1)) H := hP
    have hD : va_D A (wld_X5_addPlace cI cJ cZ h_p0 ad_p0 x1 p0_steps x4 (upd p0_placeKinds p0_places.toNatClampNeg a1)) := hD
    exact x_vret (w1 := fun (u : (Int32) × (Int32) × (Nat → Int32)) => (wld_X5_addPlace cI cJ cZ h_p0 ad_p0 (u.2.1) p0_steps (u.1) (u.2.2))) hx hb hr hlocks (x4, x1, (upd p0_placeKinds p0_places.toNatClampNeg a1)) hw hP hD hS dX5_addPlace_39
  · have hw := hw.2 c3
    refine lv_iconst (v := 1) hx hb dX5_addPlace_30 (by decide) ?_
    refine lv_goto (tgt := 35) hx hb dX5_addPlace_31 (by decide) ?_
    refine lv_iadd hx hb dX5_addPlace_35 ?_
    refine lv_topi (fun x5 ex5 => ?_)
    have hw := hw x5 ex5
    refine va_put (D := (dC, dI)) (ci := 5) (v := .int x5) (ty := .int) (C := RX5) (T := TX5) (N := 14) hx hb hts iX5 tyX5 tyX5_ok nmX5 hown hK hP hD hS 0 rfl rfl 13 (by decide) (hts (.fieldLink RX5 52 "NetHouse$Net" "coloured" "I") (by decide +kernel)) (fun _ h9 => h9) rfl (by decide +kernel) rfl rfl (Nat.le_of_ble_eq_true rfl) dX5_addPlace_36 (fun H locs hP hD hS => ?_)
    have hP : va_P (dC, dI) vwCl (wld_X5_addPlace cI cJ cZ h_p0 ad_p0 x1 p0_steps x5 (upd p0_placeKinds p0_places.toNatClampNeg a1)) H := hP
    have hD : va_D A (wld_X5_addPlace cI cJ cZ h_p0 ad_p0 x1 p0_steps x5 (upd p0_placeKinds p0_places.toNatClampNeg a1)) := hD
    exact x_vret (w1 := fun (u : (Int32) × (Int32) × (Nat → Int32)) => (wld_X5_addPlace cI cJ cZ h_p0 ad_p0 (u.2.1) p0_steps (u.1) (u.2.2))) hx hb hr hlocks (x5, x1, (upd p0_placeKinds p0_places.toNatClampNeg a1)) hw hP hD hS dX5_addPlace_39
abbrev wld_X5_addStep (cI cJ cZ : ClassId) (h_p0 : Nat) (ad_p0 : Nat → Nat) (p0_places : Int32) (p0_steps : Int32) (p0_coloured : Int32) (p0_stepKinds : Nat → Int32) : va_W := [(h_p0, .inr (5, [.ref (ad_p0 0), .ref (ad_p0 1), .ref (ad_p0 2), .ref (ad_p0 3), .ref (ad_p0 4), .ref (ad_p0 5), .ref (ad_p0 6), .ref (ad_p0 7), .ref (ad_p0 8), .ref (ad_p0 9), .ref (ad_p0 10), .int p0_places, .int p0_steps, .int p0_coloured])), ((ad_p0 1), .inl (cI, 16, .inl p0_stepKinds))]
abbrev q_X5_addStep (dC : Nat → ClassId) (dI : Nat → Nat → Nat) (cI cJ cZ : ClassId) (h_p0 : Nat) (ad_p0 : Nat → Nat) (p0_places : Int32) (p0_steps : Int32) (p0_coloured : Int32) (p0_stepKinds : Nat → Int32) (post : (Int32) → (Nat → Int32) → Prop) (A : Nat → Prop) : Array Value → State → Outcome → State → Prop := va_Qv (fun (u : (Int32) × (Nat → Int32)) => post (u.1) (u.2)) (fun (u : (Int32) × (Nat → Int32)) t => xPost (dC, dI) A (wld_X5_addStep cI cJ cZ h_p0 ad_p0 p0_places (u.1) p0_coloured (u.2)) t) A
def w_X5_addStep (p0_steps : Int32) (p0_stepKinds : Nat → Int32) (a1 : Int32) (post : (Int32) → (Nat → Int32) → Prop) : Prop :=
  vp_in p0_steps 16 ∧
  ∀ x1 : Int32, x1 = (p0_steps + (1 : Int32)) →
  (post x1 (upd p0_stepKinds p0_steps.toNatClampNeg a1))
set_option maxHeartbeats 4000000 in
set_option maxRecDepth 100000 in
theorem c_X5_addStep {l : Launch} {dC : Nat → ClassId} {dI : Nat → Nat → Nat} {sz : Nat} {cI cJ cZ : ClassId} {h_p0 : Nat} {ad_p0 : Nat → Nat} {p0_places : Int32} {p0_steps : Int32} {p0_coloured : Int32} {p0_stepKinds : Nat → Int32} {a1 : Int32} {post : (Int32) → (Nat → Int32) → Prop} (hw : w_X5_addStep p0_steps p0_stepKinds a1 post) : Met l yX5_addStep wsX5_addStep ({ frames := 0, cells := 0, slots := 0, locals := 0 }) (va_Pc [.ref h_p0, .int a1] (xPre (dC, dI) cI cJ cZ (wld_X5_addStep cI cJ cZ h_p0 ad_p0 p0_places p0_steps p0_coloured p0_stepKinds) sz)) (q_X5_addStep dC dI cI cJ cZ h_p0 ad_p0 p0_places p0_steps p0_coloured p0_stepKinds post (va_A (wld_X5_addStep cI cJ cZ h_p0 ad_p0 p0_places p0_steps p0_coloured p0_stepKinds) sz)) 0 0 (va_A (wld_X5_addStep cI cJ cZ h_p0 ad_p0 p0_places p0_steps p0_coloured p0_stepKinds) sz) := by
  refine x_met (cc := cX5_addStep) (maxL := 2) (ret := none) (own := RX5) (Qc := fun A => (q_X5_addStep dC dI cI cJ cZ h_p0 ad_p0 p0_places p0_steps p0_coloured p0_stepKinds post A)) (by decide) rfl rfl (Nat.le_of_ble_eq_true rfl) ?_
  intro p e s m args below meth c A ls E0 hP hD hS hl
  obtain ⟨hx, hb, hr, hml, hown, hts, hlocks, hK, hA, n1, n2⟩ := id E0
  have iX5 : ∀ w ∈ u_ws RX5 TX5 14, w ∈ wsX5_addStep := fun w h => List.mem_cons_of_mem _ (List.mem_append_right _ h)
  have hS0 := hS
  have hl : lv_has ls 2 [(0, .ref h_p0), (1, .int a1)] := hl
  unfold w_X5_addStep at hw
  obtain ⟨H, hH⟩ : ∃ H, H = s.heap := ⟨_, rfl⟩
  have hS : va_S A s.heap H [] := by rw [hH]; exact hS
  have hP : va_P (dC, dI) vwCl (wld_X5_addStep cI cJ cZ h_p0 ad_p0 p0_places p0_steps p0_coloured p0_stepKinds) H := by rw [hH]; exact hP
  suffices hG : W p l e ({ frames := 0, cells := 0, slots := 0, locals := 0 }) s m args below meth c H [] 0 0 (MQ below (q_X5_addStep dC dI cI cJ cZ h_p0 ad_p0 p0_places p0_steps p0_coloured p0_stepKinds post A) args s 0 0 A) (F0 m 0 ls []) by rw [hH] at hG; exact hG
  clear hH
  refine lv_aload_n hx hb dX5_addStep_0 rfl (lv_at hl 0 rfl) ?_
  refine va_get (D := (dC, dI)) (ci := 5) (v := .ref (ad_p0 1)) (C := RX5) (T := TX5) (N := 14) hx hb hts iX5 hown hK hP 0 rfl rfl 1 (by decide) (hts (.fieldLink RX5 15 "NetHouse$Net" "stepKinds" "[I") (by decide +kernel)) (fun _ h9 => h9) rfl dX5_addStep_1 ?_
  refine lv_aload_n hx hb dX5_addStep_4 rfl (lv_at hl 0 rfl) ?_
  refine va_get (D := (dC, dI)) (ci := 5) (v := .int p0_steps) (C := RX5) (T := TX5) (N := 14) hx hb hts iX5 hown hK hP 0 rfl rfl 12 (by decide) (hts (.fieldLink RX5 49 "NetHouse$Net" "steps" "I") (by decide +kernel)) (fun _ h9 => h9) rfl dX5_addStep_5 ?_
  refine lv_iload_n hx hb dX5_addStep_8 rfl (lv_at hl 1 rfl) ?_
  refine va_iast hx hb hK hP hD hS 1 0 rfl rfl hw.1 dX5_addStep_9 (fun H locs hP hD hS => ?_)
  have hw := hw.2
  have hP : va_P (dC, dI) vwCl (wld_X5_addStep cI cJ cZ h_p0 ad_p0 p0_places p0_steps p0_coloured (upd p0_stepKinds p0_steps.toNatClampNeg a1)) H := hP
  have hD : va_D A (wld_X5_addStep cI cJ cZ h_p0 ad_p0 p0_places p0_steps p0_coloured (upd p0_stepKinds p0_steps.toNatClampNeg a1)) := hD
  refine lv_aload_n hx hb dX5_addStep_10 rfl (lv_at hl 0 rfl) ?_
  refine lv_dup hx hb dX5_addStep_11 rfl ?_
  refine va_get (D := (dC, dI)) (ci := 5) (v := .int p0_steps) (C := RX5) (T := TX5) (N := 14) hx hb hts iX5 hown hK hP 0 rfl rfl 12 (by decide) (hts (.fieldLink RX5 49 "NetHouse$Net" "steps" "I") (by decide +kernel)) (fun _ h9 => h9) rfl dX5_addStep_12 ?_
  refine lv_iconst (v := 1) hx hb dX5_addStep_15 (by decide) ?_
  refine lv_iadd hx hb dX5_addStep_16 ?_
  refine lv_topi (fun x1 ex1 => ?_)
  have hw := hw x1 ex1
  refine va_put (D := (dC, dI)) (ci := 5) (v := .int x1) (ty := .int) (C := RX5) (T := TX5) (N := 14) hx hb hts iX5 tyX5 tyX5_ok nmX5 hown hK hP hD hS 0 rfl rfl 12 (by decide) (hts (.fieldLink RX5 49 "NetHouse$Net" "steps" "I") (by decide +kernel)) (fun _ h9 => h9) rfl (by decide +kernel) rfl rfl (Nat.le_of_ble_eq_true rfl) dX5_addStep_17 (fun H locs hP hD hS => ?_)
  have hP : va_P (dC, dI) vwCl (wld_X5_addStep cI cJ cZ h_p0 ad_p0 p0_places x1 p0_coloured (upd p0_stepKinds p0_steps.toNatClampNeg a1)) H := hP
  have hD : va_D A (wld_X5_addStep cI cJ cZ h_p0 ad_p0 p0_places x1 p0_coloured (upd p0_stepKinds p0_steps.toNatClampNeg a1)) := hD
  exact x_vret (w1 := fun (u : (Int32) × (Nat → Int32)) => (wld_X5_addStep cI cJ cZ h_p0 ad_p0 p0_places (u.1) p0_coloured (u.2))) hx hb hr hlocks (x1, (upd p0_stepKinds p0_steps.toNatClampNeg a1)) hw hP hD hS dX5_addStep_20
abbrev wld_X5_withBit (cI cJ cZ : ClassId) : va_W := []
abbrev q_X5_withBit (dC : Nat → ClassId) (dI : Nat → Nat → Nat) (cI cJ cZ : ClassId) (post : Int32 → Prop) (A : Nat → Prop) : Array Value → State → Outcome → State → Prop := va_Qi (fun r (u : Unit) => post r ) (fun (u : Unit) t => xPost (dC, dI) A (wld_X5_withBit cI cJ cZ) t) A
def w_X5_withBit (a0 : Int32) (a1 : Int32) (a2 : Int32) (post : Int32 → Prop) : Prop :=
  (a2 = 0 →
    (post (a0 &&& (((1 : Int32) <<< (a1 &&& 31)) ^^^ (-1 : Int32))))) ∧
  (¬ a2 = 0 →
    (post (a0 ||| ((1 : Int32) <<< (a1 &&& 31)))))
set_option maxHeartbeats 4000000 in
set_option maxRecDepth 100000 in
theorem c_X5_withBit {l : Launch} {dC : Nat → ClassId} {dI : Nat → Nat → Nat} {sz : Nat} {cI cJ cZ : ClassId} {a0 : Int32} {a1 : Int32} {a2 : Int32} {post : Int32 → Prop} (hw : w_X5_withBit a0 a1 a2 post) : Met l yX5_withBit wsX5_withBit ({ frames := 0, cells := 0, slots := 0, locals := 0 }) (va_Pc [.int a0, .int a1, .int a2] (xPre (dC, dI) cI cJ cZ (wld_X5_withBit cI cJ cZ) sz)) (q_X5_withBit dC dI cI cJ cZ post (va_A (wld_X5_withBit cI cJ cZ) sz)) 0 0 (va_A (wld_X5_withBit cI cJ cZ) sz) := by
  refine x_met (cc := cX5_withBit) (maxL := 3) (ret := (some .int)) (own := RX5) (Qc := fun A => (q_X5_withBit dC dI cI cJ cZ post A)) (by decide) rfl rfl (Nat.le_of_ble_eq_true rfl) ?_
  intro p e s m args below meth c A ls E0 hP hD hS hl
  obtain ⟨hx, hb, hr, hml, hown, hts, hlocks, hK, hA, n1, n2⟩ := id E0
  have hS0 := hS
  have hl : lv_has ls 3 [(0, .int a0), (1, .int a1), (2, .int a2)] := hl
  unfold w_X5_withBit at hw
  obtain ⟨H, hH⟩ : ∃ H, H = s.heap := ⟨_, rfl⟩
  have hS : va_S A s.heap H [] := by rw [hH]; exact hS
  have hP : va_P (dC, dI) vwCl (wld_X5_withBit cI cJ cZ) H := by rw [hH]; exact hP
  suffices hG : W p l e ({ frames := 0, cells := 0, slots := 0, locals := 0 }) s m args below meth c H [] 0 0 (MQ below (q_X5_withBit dC dI cI cJ cZ post A) args s 0 0 A) (F0 m 0 ls []) by rw [hH] at hG; exact hG
  clear hH
  refine lv_iload_n hx hb dX5_withBit_0 rfl (lv_at hl 2 rfl) ?_
  refine lv_if_eq (tgt := 12) hx hb dX5_withBit_1 (by decide) (fun c1 => ?_) (fun c2 => ?_)
  · have hw := hw.1 c1
    refine lv_iload_n hx hb dX5_withBit_12 rfl (lv_at hl 0 rfl) ?_
    refine lv_iconst (v := 1) hx hb dX5_withBit_13 (by decide) ?_
    refine lv_iload_n hx hb dX5_withBit_14 rfl (lv_at hl 1 rfl) ?_
    refine lv_ishl hx hb dX5_withBit_15 ?_
    refine lv_iconst (v := -1) hx hb dX5_withBit_16 (by decide) ?_
    refine lv_ixor hx hb dX5_withBit_17 ?_
    refine lv_iand hx hb dX5_withBit_18 ?_
    exact x_iret (w1 := fun (u : Unit) => (wld_X5_withBit cI cJ cZ)) hx hb hr hlocks () hw hP hD hS dX5_withBit_19
  · have hw := hw.2 c2
    refine lv_iload_n hx hb dX5_withBit_4 rfl (lv_at hl 0 rfl) ?_
    refine lv_iconst (v := 1) hx hb dX5_withBit_5 (by decide) ?_
    refine lv_iload_n hx hb dX5_withBit_6 rfl (lv_at hl 1 rfl) ?_
    refine lv_ishl hx hb dX5_withBit_7 ?_
    refine lv_ior hx hb dX5_withBit_8 ?_
    refine lv_goto (tgt := 19) hx hb dX5_withBit_9 (by decide) ?_
    exact x_iret (w1 := fun (u : Unit) => (wld_X5_withBit cI cJ cZ)) hx hb hr hlocks () hw hP hD hS dX5_withBit_19
