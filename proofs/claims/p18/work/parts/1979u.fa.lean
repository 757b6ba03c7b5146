/-! ===== fair, purely ===== -/
/-- what k minutes from a on show -/
def fa_s (f : Nat → Nat) (a : Nat) : Nat → Nat
  | 0 => 0
  | k + 1 => fa_s f a k + f (a + k)
def fa_tn (mi : Nat) : Nat := (mi + 9) / 10
/-- where a turn ends -/
def fa_e (mi r : Nat) : Nat := if 10 * r + 10 < mi then 10 * r + 10 else mi
/-- what a turn shows of a station, d minutes late -/
def fa_p (fw : Nat → Nat → Nat) (mi r s d : Nat) : Nat := fa_s (fw s) (10 * r + d) (fa_e mi r - (10 * r + d))
/-- how late, by what is on -/
def fa_l (go : Nat) (on : Nat → Nat) (r : Nat) : Nat := if r = 0 then 0 else if on (r - 1) = on r then 0 else go
/-- what of a station is shown in n turns -/
def fa_w (fw : Nat → Nat → Nat) (mi go : Nat) (on : Nat → Nat) (s : Nat) : Nat → Nat
  | 0 => 0
  | n + 1 => if on n = s then fa_w fw mi go on s n + fa_p fw mi n s (fa_l go on n) else fa_w fw mi go on s n
/-- the holder of a turn by the number of the way -/
def fa_d (w tn way r : Nat) : Nat := way / w ^ (tn - 1 - r) % w
/-- the least -/
def fa_m (f : Nat → Nat) (b : Nat) : Nat → Nat
  | 0 => b
  | k + 1 => if f k < fa_m f b k then f k else fa_m f b k
def fa_L (fw : Nat → Nat → Nat) (mi go w : Nat) (own : Nat → Nat) (way : Nat) : Nat := fa_m (fun i => fa_w fw mi go (fun r => own (fa_d w (fa_tn mi) way r)) (own i) (fa_tn mi)) 1000 w
/-- the best of the first n ways, of several the first -/
def fa_b (L : Nat → Nat) : Nat → Nat
  | 0 => 0
  | n + 1 => if L (fa_b L n) < L n then n else fa_b L n
def fa_f (Z Y : Nat → Nat) (s t : Nat) : Nat := sc_W Z Y 0 4294967292 s t
def fa_o (Y : Nat → Nat) (i : Nat) : Nat := am_ag (Y 5) (2 * i + 1)
/-- fair: the best way of the evening -/
def fa_B (mi go : Nat) (Z Y : Nat → Nat) : Nat := fa_b (fa_L (fa_f Z Y) mi go (Z 5) (fa_o Y)) (Z 5 ^ fa_tn mi)
def fa_v (mi go : Nat) (Z Y : Nat → Nat) : Nat := fa_L (fa_f Z Y) mi go (Z 5) (fa_o Y) (fa_B mi go Z Y)
def fa_h (mi go : Nat) (Z Y : Nat → Nat) (r : Nat) : Nat := fa_d (Z 5) (fa_tn mi) (fa_B mi go Z Y) r
def fa_a (mi go : Nat) (Z Y : Nat → Nat) (s : Nat) : Nat := fa_w (fa_f Z Y) mi go (fun r => fa_o Y (fa_h mi go Z Y r)) s (fa_tn mi)
