/-! ===== pure words: what Sim's methods answer ===== -/
def sDv (N : bS) (t n : Nat) : Int32 := sma 0 (fun r => if 0 ≤ N (7 + r) t then 0 else -(N (7 + r) t)) n
def sPz (N : bS) (t : Nat) : Int32 := N (20 + t) 3 * N (20 + t) 0 - sDv N t 6 - sDv N t 6
def sPr (N : bS) (t : Nat) : Int32 := if 0 ≤ sPz N t then sPz N t else 0
def sUz (N : bS) (t : Nat) : Int32 := rmi (N (20 + t) 2 - N 6 0) (N (20 + t) 1)
def sUn (N : bS) (t : Nat) : Int32 := if sUz N t ≤ 0 then sUz N t + N (20 + t) 1 else sUz N t
def sWo (N : bS) (T r : Nat) : Int32 := sma (N 5 r) (fun t => N (7 + r) t * sPr N t) T
def nSl (N : bS) (r t : Nat) (x : Int32) : bS := up2 (up2 N 5 r (N 5 r + x * sPr N t)) (7 + r) t (N (7 + r) t - x)
