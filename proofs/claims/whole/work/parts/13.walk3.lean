def f_X12_init (st : zS) (o : Nat) : Option zS := (if zTg (zNw st 1 948) o ∈ [22] then (if zTg (zNw (zPR (zNw st 1 948) o 1 (some (st).1)) 1 948) o ∈ [22] then (if zTg (zNw (zPR (zNw (zPR (zNw st 1 948) o 1 (some (st).1)) 1 948) o 2 (some ((zPR (zNw st 1 948) o 1 (some (st).1))).1)) 1 6) o ∈ [22] then (if zTg (zNw (zPR (zNw (zPR (zNw (zPR (zNw st 1 948) o 1 (some (st).1)) 1 948) o 2 (some ((zPR (zNw st 1 948) o 1 (some (st).1))).1)) 1 6) o 9 (some ((zPR (zNw (zPR (zNw st 1 948) o 1 (some (st).1)) 1 948) o 2 (some ((zPR (zNw st 1 948) o 1 (some (st).1))).1))).1)) 2 64) o ∈ [22] then (if zTg (zNw (zPR (zNw (zPR (zNw (zPR (zNw (zPR (zNw st 1 948) o 1 (some (st).1)) 1 948) o 2 (some ((zPR (zNw st 1 948) o 1 (some (st).1))).1)) 1 6) o 9 (some ((zPR (zNw (zPR (zNw st 1 948) o 1 (some (st).1)) 1 948) o 2 (some ((zPR (zNw st 1 948) o 1 (some (st).1))).1))).1)) 2 64) o 10 (some ((zPR (zNw (zPR (zNw (zPR (zNw st 1 948) o 1 (some (st).1)) 1 948) o 2 (some ((zPR (zNw st 1 948) o 1 (some (st).1))).1)) 1 6) o 9 (some ((zPR (zNw (zPR (zNw st 1 948) o 1 (some (st).1)) 1 948) o 2 (some ((zPR (zNw st 1 948) o 1 (some (st).1))).1))).1))).1)) 1 5) o ∈ [22] then (if zTg (zNw (zPR (zNw (zPR (zNw (zPR (zNw (zPR (zNw (zPR (zNw st 1 948) o 1 (some (st).1)) 1 948) o 2 (some ((zPR (zNw st 1 948) o 1 (some (st).1))).1)) 1 6) o 9 (some ((zPR (zNw (zPR (zNw st 1 948) o 1 (some (st).1)) 1 948) o 2 (some ((zPR (zNw st 1 948) o 1 (some (st).1))).1))).1)) 2 64) o 10 (some ((zPR (zNw (zPR (zNw (zPR (zNw st 1 948) o 1 (some (st).1)) 1 948) o 2 (some ((zPR (zNw st 1 948) o 1 (some (st).1))).1)) 1 6) o 9 (some ((zPR (zNw (zPR (zNw st 1 948) o 1 (some (st).1)) 1 948) o 2 (some ((zPR (zNw st 1 948) o 1 (some (st).1))).1))).1))).1)) 1 5) o 11 (some ((zPR (zNw (zPR (zNw (zPR (zNw (zPR (zNw st 1 948) o 1 (some (st).1)) 1 948) o 2 (some ((zPR (zNw st 1 948) o 1 (some (st).1))).1)) 1 6) o 9 (some ((zPR (zNw (zPR (zNw st 1 948) o 1 (some (st).1)) 1 948) o 2 (some ((zPR (zNw st 1 948) o 1 (some (st).1))).1))).1)) 2 64) o 10 (some ((zPR (zNw (zPR (zNw (zPR (zNw st 1 948) o 1 (some (st).1)) 1 948) o 2 (some ((zPR (zNw st 1 948) o 1 (some (st).1))).1)) 1 6) o 9 (some ((zPR (zNw (zPR (zNw st 1 948) o 1 (some (st).1)) 1 948) o 2 (some ((zPR (zNw st 1 948) o 1 (some (st).1))).1))).1))).1))).1)) 1 40) o ∈ [22] then (if zTg (zNw (zPR (zNw (zPR (zNw (zPR (zNw (zPR (zNw (zPR (zNw (zPR (zNw st 1 948) o 1 (some (st).1)) 1 948) o 2 (some ((zPR (zNw st 1 948) o 1 (some (st).1))).1)) 1 6) o 9 (some ((zPR (zNw (zPR (zNw st 1 948) o 1 (some (st).1)) 1 948) o 2 (some ((zPR (zNw st 1 948) o 1 (some (st).1))).1))).1)) 2 64) o 10 (some ((zPR (zNw (zPR (zNw (zPR (zNw st 1 948) o 1 (some (st).1)) 1 948) o 2 (some ((zPR (zNw st 1 948) o 1 (some (st).1))).1)) 1 6) o 9 (some ((zPR (zNw (zPR (zNw st 1 948) o 1 (some (st).1)) 1 948) o 2 (some ((zPR (zNw st 1 948) o 1 (some (st).1))).1))).1))).1)) 1 5) o 11 (some ((zPR (zNw (zPR (zNw (zPR (zNw (zPR (zNw st 1 948) o 1 (some (st).1)) 1 948) o 2 (some ((zPR (zNw st 1 948) o 1 (some (st).1))).1)) 1 6) o 9 (some ((zPR (zNw (zPR (zNw st 1 948) o 1 (some (st).1)) 1 948) o 2 (some ((zPR (zNw st 1 948) o 1 (some (st).1))).1))).1)) 2 64) o 10 (some ((zPR (zNw (zPR (zNw (zPR (zNw st 1 948) o 1 (some (st).1)) 1 948) o 2 (some ((zPR (zNw st 1 948) o 1 (some (st).1))).1)) 1 6) o 9 (some ((zPR (zNw (zPR (zNw st 1 948) o 1 (some (st).1)) 1 948) o 2 (some ((zPR (zNw st 1 948) o 1 (some (st).1))).1))).1))).1))).1)) 1 40) o 17 (some ((zPR (zNw (zPR (zNw (zPR (zNw (zPR (zNw (zPR (zNw st 1 948) o 1 (some (st).1)) 1 948) o 2 (some ((zPR (zNw st 1 948) o 1 (some (st).1))).1)) 1 6) o 9 (some ((zPR (zNw (zPR (zNw st 1 948) o 1 (some (st).1)) 1 948) o 2 (some ((zPR (zNw st 1 948) o 1 (some (st).1))).1))).1)) 2 64) o 10 (some ((zPR (zNw (zPR (zNw (zPR (zNw st 1 948) o 1 (some (st).1)) 1 948) o 2 (some ((zPR (zNw st 1 948) o 1 (some (st).1))).1)) 1 6) o 9 (some ((zPR (zNw (zPR (zNw st 1 948) o 1 (some (st).1)) 1 948) o 2 (some ((zPR (zNw st 1 948) o 1 (some (st).1))).1))).1))).1)) 1 5) o 11 (some ((zPR (zNw (zPR (zNw (zPR (zNw (zPR (zNw st 1 948) o 1 (some (st).1)) 1 948) o 2 (some ((zPR (zNw st 1 948) o 1 (some (st).1))).1)) 1 6) o 9 (some ((zPR (zNw (zPR (zNw st 1 948) o 1 (some (st).1)) 1 948) o 2 (some ((zPR (zNw st 1 948) o 1 (some (st).1))).1))).1)) 2 64) o 10 (some ((zPR (zNw (zPR (zNw (zPR (zNw st 1 948) o 1 (some (st).1)) 1 948) o 2 (some ((zPR (zNw st 1 948) o 1 (some (st).1))).1)) 1 6) o 9 (some ((zPR (zNw (zPR (zNw st 1 948) o 1 (some (st).1)) 1 948) o 2 (some ((zPR (zNw st 1 948) o 1 (some (st).1))).1))).1))).1))).1))).1)) 1 20) o ∈ [22] then (Option.bind (zR (zPR (zNw (zPR (zNw (zPR (zNw (zPR (zNw (zPR (zNw (zPR (zNw (zPR (zNw st 1 948) o 1 (some (st).1)) 1 948) o 2 (some ((zPR (zNw st 1 948) o 1 (some (st).1))).1)) 1 6) o 9 (some ((zPR (zNw (zPR (zNw st 1 948) o 1 (some (st).1)) 1 948) o 2 (some ((zPR (zNw st 1 948) o 1 (some (st).1))).1))).1)) 2 64) o 10 (some ((zPR (zNw (zPR (zNw (zPR (zNw st 1 948) o 1 (some (st).1)) 1 948) o 2 (some ((zPR (zNw st 1 948) o 1 (some (st).1))).1)) 1 6) o 9 (some ((zPR (zNw (zPR (zNw st 1 948) o 1 (some (st).1)) 1 948) o 2 (some ((zPR (zNw st 1 948) o 1 (some (st).1))).1))).1))).1)) 1 5) o 11 (some ((zPR (zNw (zPR (zNw (zPR (zNw (zPR (zNw st 1 948) o 1 (some (st).1)) 1 948) o 2 (some ((zPR (zNw st 1 948) o 1 (some (st).1))).1)) 1 6) o 9 (some ((zPR (zNw (zPR (zNw st 1 948) o 1 (some (st).1)) 1 948) o 2 (some ((zPR (zNw st 1 948) o 1 (some (st).1))).1))).1)) 2 64) o 10 (some ((zPR (zNw (zPR (zNw (zPR (zNw st 1 948) o 1 (some (st).1)) 1 948) o 2 (some ((zPR (zNw st 1 948) o 1 (some (st).1))).1)) 1 6) o 9 (some ((zPR (zNw (zPR (zNw st 1 948) o 1 (some (st).1)) 1 948) o 2 (some ((zPR (zNw st 1 948) o 1 (some (st).1))).1))).1))).1))).1)) 1 40) o 17 (some ((zPR (zNw (zPR (zNw (zPR (zNw (zPR (zNw (zPR (zNw st 1 948) o 1 (some (st).1)) 1 948) o 2 (some ((zPR (zNw st 1 948) o 1 (some (st).1))).1)) 1 6) o 9 (some ((zPR (zNw (zPR (zNw st 1 948) o 1 (some (st).1)) 1 948) o 2 (some ((zPR (zNw st 1 948) o 1 (some (st).1))).1))).1)) 2 64) o 10 (some ((zPR (zNw (zPR (zNw (zPR (zNw st 1 948) o 1 (some (st).1)) 1 948) o 2 (some ((zPR (zNw st 1 948) o 1 (some (st).1))).1)) 1 6) o 9 (some ((zPR (zNw (zPR (zNw st 1 948) o 1 (some (st).1)) 1 948) o 2 (some ((zPR (zNw st 1 948) o 1 (some (st).1))).1))).1))).1)) 1 5) o 11 (some ((zPR (zNw (zPR (zNw (zPR (zNw (zPR (zNw st 1 948) o 1 (some (st).1)) 1 948) o 2 (some ((zPR (zNw st 1 948) o 1 (some (st).1))).1)) 1 6) o 9 (some ((zPR (zNw (zPR (zNw st 1 948) o 1 (some (st).1)) 1 948) o 2 (some ((zPR (zNw st 1 948) o 1 (some (st).1))).1))).1)) 2 64) o 10 (some ((zPR (zNw (zPR (zNw (zPR (zNw st 1 948) o 1 (some (st).1)) 1 948) o 2 (some ((zPR (zNw st 1 948) o 1 (some (st).1))).1)) 1 6) o 9 (some ((zPR (zNw (zPR (zNw st 1 948) o 1 (some (st).1)) 1 948) o 2 (some ((zPR (zNw st 1 948) o 1 (some (st).1))).1))).1))).1))).1))).1)) 1 20) o 19 (some ((zPR (zNw (zPR (zNw (zPR (zNw (zPR (zNw (zPR (zNw (zPR (zNw st 1 948) o 1 (some (st).1)) 1 948) o 2 (some ((zPR (zNw st 1 948) o 1 (some (st).1))).1)) 1 6) o 9 (some ((zPR (zNw (zPR (zNw st 1 948) o 1 (some (st).1)) 1 948) o 2 (some ((zPR (zNw st 1 948) o 1 (some (st).1))).1))).1)) 2 64) o 10 (some ((zPR (zNw (zPR (zNw (zPR (zNw st 1 948) o 1 (some (st).1)) 1 948) o 2 (some ((zPR (zNw st 1 948) o 1 (some (st).1))).1)) 1 6) o 9 (some ((zPR (zNw (zPR (zNw st 1 948) o 1 (some (st).1)) 1 948) o 2 (some ((zPR (zNw st 1 948) o 1 (some (st).1))).1))).1))).1)) 1 5) o 11 (some ((zPR (zNw (zPR (zNw (zPR (zNw (zPR (zNw st 1 948) o 1 (some (st).1)) 1 948) o 2 (some ((zPR (zNw st 1 948) o 1 (some (st).1))).1)) 1 6) o 9 (some ((zPR (zNw (zPR (zNw st 1 948) o 1 (some (st).1)) 1 948) o 2 (some ((zPR (zNw st 1 948) o 1 (some (st).1))).1))).1)) 2 64) o 10 (some ((zPR (zNw (zPR (zNw (zPR (zNw st 1 948) o 1 (some (st).1)) 1 948) o 2 (some ((zPR (zNw st 1 948) o 1 (some (st).1))).1)) 1 6) o 9 (some ((zPR (zNw (zPR (zNw st 1 948) o 1 (some (st).1)) 1 948) o 2 (some ((zPR (zNw st 1 948) o 1 (some (st).1))).1))).1))).1))).1)) 1 40) o 17 (some ((zPR (zNw (zPR (zNw (zPR (zNw (zPR (zNw (zPR (zNw st 1 948) o 1 (some (st).1)) 1 948) o 2 (some ((zPR (zNw st 1 948) o 1 (some (st).1))).1)) 1 6) o 9 (some ((zPR (zNw (zPR (zNw st 1 948) o 1 (some (st).1)) 1 948) o 2 (some ((zPR (zNw st 1 948) o 1 (some (st).1))).1))).1)) 2 64) o 10 (some ((zPR (zNw (zPR (zNw (zPR (zNw st 1 948) o 1 (some (st).1)) 1 948) o 2 (some ((zPR (zNw st 1 948) o 1 (some (st).1))).1)) 1 6) o 9 (some ((zPR (zNw (zPR (zNw st 1 948) o 1 (some (st).1)) 1 948) o 2 (some ((zPR (zNw st 1 948) o 1 (some (st).1))).1))).1))).1)) 1 5) o 11 (some ((zPR (zNw (zPR (zNw (zPR (zNw (zPR (zNw st 1 948) o 1 (some (st).1)) 1 948) o 2 (some ((zPR (zNw st 1 948) o 1 (some (st).1))).1)) 1 6) o 9 (some ((zPR (zNw (zPR (zNw st 1 948) o 1 (some (st).1)) 1 948) o 2 (some ((zPR (zNw st 1 948) o 1 (some (st).1))).1))).1)) 2 64) o 10 (some ((zPR (zNw (zPR (zNw (zPR (zNw st 1 948) o 1 (some (st).1)) 1 948) o 2 (some ((zPR (zNw st 1 948) o 1 (some (st).1))).1)) 1 6) o 9 (some ((zPR (zNw (zPR (zNw st 1 948) o 1 (some (st).1)) 1 948) o 2 (some ((zPR (zNw st 1 948) o 1 (some (st).1))).1))).1))).1))).1))).1))).1)) o 1) (fun b8 => (if zTg (zPR (zNw (zPR (zNw (zPR (zNw (zPR (zNw (zPR (zNw (zPR (zNw (zPR (zNw st 1 948) o 1 (some (st).1)) 1 948) o 2 (some ((zPR (zNw st 1 948) o 1 (some (st).1))).1)) 1 6) o 9 (some ((zPR (zNw (zPR (zNw st 1 948) o 1 (some (st).1)) 1 948) o 2 (some ((zPR (zNw st 1 948) o 1 (some (st).1))).1))).1)) 2 64) o 10 (some ((zPR (zNw (zPR (zNw (zPR (zNw st 1 948) o 1 (some (st).1)) 1 948) o 2 (some ((zPR (zNw st 1 948) o 1 (some (st).1))).1)) 1 6) o 9 (some ((zPR (zNw (zPR (zNw st 1 948) o 1 (some (st).1)) 1 948) o 2 (some ((zPR (zNw st 1 948) o 1 (some (st).1))).1))).1))).1)) 1 5) o 11 (some ((zPR (zNw (zPR (zNw (zPR (zNw (zPR (zNw st 1 948) o 1 (some (st).1)) 1 948) o 2 (some ((zPR (zNw st 1 948) o 1 (some (st).1))).1)) 1 6) o 9 (some ((zPR (zNw (zPR (zNw st 1 948) o 1 (some (st).1)) 1 948) o 2 (some ((zPR (zNw st 1 948) o 1 (some (st).1))).1))).1)) 2 64) o 10 (some ((zPR (zNw (zPR (zNw (zPR (zNw st 1 948) o 1 (some (st).1)) 1 948) o 2 (some ((zPR (zNw st 1 948) o 1 (some (st).1))).1)) 1 6) o 9 (some ((zPR (zNw (zPR (zNw st 1 948) o 1 (some (st).1)) 1 948) o 2 (some ((zPR (zNw st 1 948) o 1 (some (st).1))).1))).1))).1))).1)) 1 40) o 17 (some ((zPR (zNw (zPR (zNw (zPR (zNw (zPR (zNw (zPR (zNw st 1 948) o 1 (some (st).1)) 1 948) o 2 (some ((zPR (zNw st 1 948) o 1 (some (st).1))).1)) 1 6) o 9 (some ((zPR (zNw (zPR (zNw st 1 948) o 1 (some (st).1)) 1 948) o 2 (some ((zPR (zNw st 1 948) o 1 (some (st).1))).1))).1)) 2 64) o 10 (some ((zPR (zNw (zPR (zNw (zPR (zNw st 1 948) o 1 (some (st).1)) 1 948) o 2 (some ((zPR (zNw st 1 948) o 1 (some (st).1))).1)) 1 6) o 9 (some ((zPR (zNw (zPR (zNw st 1 948) o 1 (some (st).1)) 1 948) o 2 (some ((zPR (zNw st 1 948) o 1 (some (st).1))).1))).1))).1)) 1 5) o 11 (some ((zPR (zNw (zPR (zNw (zPR (zNw (zPR (zNw st 1 948) o 1 (some (st).1)) 1 948) o 2 (some ((zPR (zNw st 1 948) o 1 (some (st).1))).1)) 1 6) o 9 (some ((zPR (zNw (zPR (zNw st 1 948) o 1 (some (st).1)) 1 948) o 2 (some ((zPR (zNw st 1 948) o 1 (some (st).1))).1))).1)) 2 64) o 10 (some ((zPR (zNw (zPR (zNw (zPR (zNw st 1 948) o 1 (some (st).1)) 1 948) o 2 (some ((zPR (zNw st 1 948) o 1 (some (st).1))).1)) 1 6) o 9 (some ((zPR (zNw (zPR (zNw st 1 948) o 1 (some (st).1)) 1 948) o 2 (some ((zPR (zNw st 1 948) o 1 (some (st).1))).1))).1))).1))).1))).1)) 1 20) o 19 (some ((zPR (zNw (zPR (zNw (zPR (zNw (zPR (zNw (zPR (zNw (zPR (zNw st 1 948) o 1 (some (st).1)) 1 948) o 2 (some ((zPR (zNw st 1 948) o 1 (some (st).1))).1)) 1 6) o 9 (some ((zPR (zNw (zPR (zNw st 1 948) o 1 (some (st).1)) 1 948) o 2 (some ((zPR (zNw st 1 948) o 1 (some (st).1))).1))).1)) 2 64) o 10 (some ((zPR (zNw (zPR (zNw (zPR (zNw st 1 948) o 1 (some (st).1)) 1 948) o 2 (some ((zPR (zNw st 1 948) o 1 (some (st).1))).1)) 1 6) o 9 (some ((zPR (zNw (zPR (zNw st 1 948) o 1 (some (st).1)) 1 948) o 2 (some ((zPR (zNw st 1 948) o 1 (some (st).1))).1))).1))).1)) 1 5) o 11 (some ((zPR (zNw (zPR (zNw (zPR (zNw (zPR (zNw st 1 948) o 1 (some (st).1)) 1 948) o 2 (some ((zPR (zNw st 1 948) o 1 (some (st).1))).1)) 1 6) o 9 (some ((zPR (zNw (zPR (zNw st 1 948) o 1 (some (st).1)) 1 948) o 2 (some ((zPR (zNw st 1 948) o 1 (some (st).1))).1))).1)) 2 64) o 10 (some ((zPR (zNw (zPR (zNw (zPR (zNw st 1 948) o 1 (some (st).1)) 1 948) o 2 (some ((zPR (zNw st 1 948) o 1 (some (st).1))).1)) 1 6) o 9 (some ((zPR (zNw (zPR (zNw st 1 948) o 1 (some (st).1)) 1 948) o 2 (some ((zPR (zNw st 1 948) o 1 (some (st).1))).1))).1))).1))).1)) 1 40) o 17 (some ((zPR (zNw (zPR (zNw (zPR (zNw (zPR (zNw (zPR (zNw st 1 948) o 1 (some (st).1)) 1 948) o 2 (some ((zPR (zNw st 1 948) o 1 (some (st).1))).1)) 1 6) o 9 (some ((zPR (zNw (zPR (zNw st 1 948) o 1 (some (st).1)) 1 948) o 2 (some ((zPR (zNw st 1 948) o 1 (some (st).1))).1))).1)) 2 64) o 10 (some ((zPR (zNw (zPR (zNw (zPR (zNw st 1 948) o 1 (some (st).1)) 1 948) o 2 (some ((zPR (zNw st 1 948) o 1 (some (st).1))).1)) 1 6) o 9 (some ((zPR (zNw (zPR (zNw st 1 948) o 1 (some (st).1)) 1 948) o 2 (some ((zPR (zNw st 1 948) o 1 (some (st).1))).1))).1))).1)) 1 5) o 11 (some ((zPR (zNw (zPR (zNw (zPR (zNw (zPR (zNw st 1 948) o 1 (some (st).1)) 1 948) o 2 (some ((zPR (zNw st 1 948) o 1 (some (st).1))).1)) 1 6) o 9 (some ((zPR (zNw (zPR (zNw st 1 948) o 1 (some (st).1)) 1 948) o 2 (some ((zPR (zNw st 1 948) o 1 (some (st).1))).1))).1)) 2 64) o 10 (some ((zPR (zNw (zPR (zNw (zPR (zNw st 1 948) o 1 (some (st).1)) 1 948) o 2 (some ((zPR (zNw st 1 948) o 1 (some (st).1))).1)) 1 6) o 9 (some ((zPR (zNw (zPR (zNw st 1 948) o 1 (some (st).1)) 1 948) o 2 (some ((zPR (zNw st 1 948) o 1 (some (st).1))).1))).1))).1))).1))).1))).1)) b8 ∈ [1] then (if zin (nI 7) (zLn (zPR (zNw (zPR (zNw (zPR (zNw (zPR (zNw (zPR (zNw (zPR (zNw (zPR (zNw st 1 948) o 1 (some (st).1)) 1 948) o 2 (some ((zPR (zNw st 1 948) o 1 (some (st).1))).1)) 1 6) o 9 (some ((zPR (zNw (zPR (zNw st 1 948) o 1 (some (st).1)) 1 948) o 2 (some ((zPR (zNw st 1 948) o 1 (some (st).1))).1))).1)) 2 64) o 10 (some ((zPR (zNw (zPR (zNw (zPR (zNw st 1 948) o 1 (some (st).1)) 1 948) o 2 (some ((zPR (zNw st 1 948) o 1 (some (st).1))).1)) 1 6) o 9 (some ((zPR (zNw (zPR (zNw st 1 948) o 1 (some (st).1)) 1 948) o 2 (some ((zPR (zNw st 1 948) o 1 (some (st).1))).1))).1))).1)) 1 5) o 11 (some ((zPR (zNw (zPR (zNw (zPR (zNw (zPR (zNw st 1 948) o 1 (some (st).1)) 1 948) o 2 (some ((zPR (zNw st 1 948) o 1 (some (st).1))).1)) 1 6) o 9 (some ((zPR (zNw (zPR (zNw st 1 948) o 1 (some (st).1)) 1 948) o 2 (some ((zPR (zNw st 1 948) o 1 (some (st).1))).1))).1)) 2 64) o 10 (some ((zPR (zNw (zPR (zNw (zPR (zNw st 1 948) o 1 (some (st).1)) 1 948) o 2 (some ((zPR (zNw st 1 948) o 1 (some (st).1))).1)) 1 6) o 9 (some ((zPR (zNw (zPR (zNw st 1 948) o 1 (some (st).1)) 1 948) o 2 (some ((zPR (zNw st 1 948) o 1 (some (st).1))).1))).1))).1))).1)) 1 40) o 17 (some ((zPR (zNw (zPR (zNw (zPR (zNw (zPR (zNw (zPR (zNw st 1 948) o 1 (some (st).1)) 1 948) o 2 (some ((zPR (zNw st 1 948) o 1 (some (st).1))).1)) 1 6) o 9 (some ((zPR (zNw (zPR (zNw st 1 948) o 1 (some (st).1)) 1 948) o 2 (some ((zPR (zNw st 1 948) o 1 (some (st).1))).1))).1)) 2 64) o 10 (some ((zPR (zNw (zPR (zNw (zPR (zNw st 1 948) o 1 (some (st).1)) 1 948) o 2 (some ((zPR (zNw st 1 948) o 1 (some (st).1))).1)) 1 6) o 9 (some ((zPR (zNw (zPR (zNw st 1 948) o 1 (some (st).1)) 1 948) o 2 (some ((zPR (zNw st 1 948) o 1 (some (st).1))).1))).1))).1)) 1 5) o 11 (some ((zPR (zNw (zPR (zNw (zPR (zNw (zPR (zNw st 1 948) o 1 (some (st).1)) 1 948) o 2 (some ((zPR (zNw st 1 948) o 1 (some (st).1))).1)) 1 6) o 9 (some ((zPR (zNw (zPR (zNw st 1 948) o 1 (some (st).1)) 1 948) o 2 (some ((zPR (zNw st 1 948) o 1 (some (st).1))).1))).1)) 2 64) o 10 (some ((zPR (zNw (zPR (zNw (zPR (zNw st 1 948) o 1 (some (st).1)) 1 948) o 2 (some ((zPR (zNw st 1 948) o 1 (some (st).1))).1)) 1 6) o 9 (some ((zPR (zNw (zPR (zNw st 1 948) o 1 (some (st).1)) 1 948) o 2 (some ((zPR (zNw st 1 948) o 1 (some (st).1))).1))).1))).1))).1))).1)) 1 20) o 19 (some ((zPR (zNw (zPR (zNw (zPR (zNw (zPR (zNw (zPR (zNw (zPR (zNw st 1 948) o 1 (some (st).1)) 1 948) o 2 (some ((zPR (zNw st 1 948) o 1 (some (st).1))).1)) 1 6) o 9 (some ((zPR (zNw (zPR (zNw st 1 948) o 1 (some (st).1)) 1 948) o 2 (some ((zPR (zNw st 1 948) o 1 (some (st).1))).1))).1)) 2 64) o 10 (some ((zPR (zNw (zPR (zNw (zPR (zNw st 1 948) o 1 (some (st).1)) 1 948) o 2 (some ((zPR (zNw st 1 948) o 1 (some (st).1))).1)) 1 6) o 9 (some ((zPR (zNw (zPR (zNw st 1 948) o 1 (some (st).1)) 1 948) o 2 (some ((zPR (zNw st 1 948) o 1 (some (st).1))).1))).1))).1)) 1 5) o 11 (some ((zPR (zNw (zPR (zNw (zPR (zNw (zPR (zNw st 1 948) o 1 (some (st).1)) 1 948) o 2 (some ((zPR (zNw st 1 948) o 1 (some (st).1))).1)) 1 6) o 9 (some ((zPR (zNw (zPR (zNw st 1 948) o 1 (some (st).1)) 1 948) o 2 (some ((zPR (zNw st 1 948) o 1 (some (st).1))).1))).1)) 2 64) o 10 (some ((zPR (zNw (zPR (zNw (zPR (zNw st 1 948) o 1 (some (st).1)) 1 948) o 2 (some ((zPR (zNw st 1 948) o 1 (some (st).1))).1)) 1 6) o 9 (some ((zPR (zNw (zPR (zNw st 1 948) o 1 (some (st).1)) 1 948) o 2 (some ((zPR (zNw st 1 948) o 1 (some (st).1))).1))).1))).1))).1)) 1 40) o 17 (some ((zPR (zNw (zPR (zNw (zPR (zNw (zPR (zNw (zPR (zNw st 1 948) o 1 (some (st).1)) 1 948) o 2 (some ((zPR (zNw st 1 948) o 1 (some (st).1))).1)) 1 6) o 9 (some ((zPR (zNw (zPR (zNw st 1 948) o 1 (some (st).1)) 1 948) o 2 (some ((zPR (zNw st 1 948) o 1 (some (st).1))).1))).1)) 2 64) o 10 (some ((zPR (zNw (zPR (zNw (zPR (zNw st 1 948) o 1 (some (st).1)) 1 948) o 2 (some ((zPR (zNw st 1 948) o 1 (some (st).1))).1)) 1 6) o 9 (some ((zPR (zNw (zPR (zNw st 1 948) o 1 (some (st).1)) 1 948) o 2 (some ((zPR (zNw st 1 948) o 1 (some (st).1))).1))).1))).1)) 1 5) o 11 (some ((zPR (zNw (zPR (zNw (zPR (zNw (zPR (zNw st 1 948) o 1 (some (st).1)) 1 948) o 2 (some ((zPR (zNw st 1 948) o 1 (some (st).1))).1)) 1 6) o 9 (some ((zPR (zNw (zPR (zNw st 1 948) o 1 (some (st).1)) 1 948) o 2 (some ((zPR (zNw st 1 948) o 1 (some (st).1))).1))).1)) 2 64) o 10 (some ((zPR (zNw (zPR (zNw (zPR (zNw st 1 948) o 1 (some (st).1)) 1 948) o 2 (some ((zPR (zNw st 1 948) o 1 (some (st).1))).1)) 1 6) o 9 (some ((zPR (zNw (zPR (zNw st 1 948) o 1 (some (st).1)) 1 948) o 2 (some ((zPR (zNw st 1 948) o 1 (some (st).1))).1))).1))).1))).1))).1))).1)) b8) then (some (zPM (zPR (zNw (zPR (zNw (zPR (zNw (zPR (zNw (zPR (zNw (zPR (zNw (zPR (zNw st 1 948) o 1 (some (st).1)) 1 948) o 2 (some ((zPR (zNw st 1 948) o 1 (some (st).1))).1)) 1 6) o 9 (some ((zPR (zNw (zPR (zNw st 1 948) o 1 (some (st).1)) 1 948) o 2 (some ((zPR (zNw st 1 948) o 1 (some (st).1))).1))).1)) 2 64) o 10 (some ((zPR (zNw (zPR (zNw (zPR (zNw st 1 948) o 1 (some (st).1)) 1 948) o 2 (some ((zPR (zNw st 1 948) o 1 (some (st).1))).1)) 1 6) o 9 (some ((zPR (zNw (zPR (zNw st 1 948) o 1 (some (st).1)) 1 948) o 2 (some ((zPR (zNw st 1 948) o 1 (some (st).1))).1))).1))).1)) 1 5) o 11 (some ((zPR (zNw (zPR (zNw (zPR (zNw (zPR (zNw st 1 948) o 1 (some (st).1)) 1 948) o 2 (some ((zPR (zNw st 1 948) o 1 (some (st).1))).1)) 1 6) o 9 (some ((zPR (zNw (zPR (zNw st 1 948) o 1 (some (st).1)) 1 948) o 2 (some ((zPR (zNw st 1 948) o 1 (some (st).1))).1))).1)) 2 64) o 10 (some ((zPR (zNw (zPR (zNw (zPR (zNw st 1 948) o 1 (some (st).1)) 1 948) o 2 (some ((zPR (zNw st 1 948) o 1 (some (st).1))).1)) 1 6) o 9 (some ((zPR (zNw (zPR (zNw st 1 948) o 1 (some (st).1)) 1 948) o 2 (some ((zPR (zNw st 1 948) o 1 (some (st).1))).1))).1))).1))).1)) 1 40) o 17 (some ((zPR (zNw (zPR (zNw (zPR (zNw (zPR (zNw (zPR (zNw st 1 948) o 1 (some (st).1)) 1 948) o 2 (some ((zPR (zNw st 1 948) o 1 (some (st).1))).1)) 1 6) o 9 (some ((zPR (zNw (zPR (zNw st 1 948) o 1 (some (st).1)) 1 948) o 2 (some ((zPR (zNw st 1 948) o 1 (some (st).1))).1))).1)) 2 64) o 10 (some ((zPR (zNw (zPR (zNw (zPR (zNw st 1 948) o 1 (some (st).1)) 1 948) o 2 (some ((zPR (zNw st 1 948) o 1 (some (st).1))).1)) 1 6) o 9 (some ((zPR (zNw (zPR (zNw st 1 948) o 1 (some (st).1)) 1 948) o 2 (some ((zPR (zNw st 1 948) o 1 (some (st).1))).1))).1))).1)) 1 5) o 11 (some ((zPR (zNw (zPR (zNw (zPR (zNw (zPR (zNw st 1 948) o 1 (some (st).1)) 1 948) o 2 (some ((zPR (zNw st 1 948) o 1 (some (st).1))).1)) 1 6) o 9 (some ((zPR (zNw (zPR (zNw st 1 948) o 1 (some (st).1)) 1 948) o 2 (some ((zPR (zNw st 1 948) o 1 (some (st).1))).1))).1)) 2 64) o 10 (some ((zPR (zNw (zPR (zNw (zPR (zNw st 1 948) o 1 (some (st).1)) 1 948) o 2 (some ((zPR (zNw st 1 948) o 1 (some (st).1))).1)) 1 6) o 9 (some ((zPR (zNw (zPR (zNw st 1 948) o 1 (some (st).1)) 1 948) o 2 (some ((zPR (zNw st 1 948) o 1 (some (st).1))).1))).1))).1))).1))).1)) 1 20) o 19 (some ((zPR (zNw (zPR (zNw (zPR (zNw (zPR (zNw (zPR (zNw (zPR (zNw st 1 948) o 1 (some (st).1)) 1 948) o 2 (some ((zPR (zNw st 1 948) o 1 (some (st).1))).1)) 1 6) o 9 (some ((zPR (zNw (zPR (zNw st 1 948) o 1 (some (st).1)) 1 948) o 2 (some ((zPR (zNw st 1 948) o 1 (some (st).1))).1))).1)) 2 64) o 10 (some ((zPR (zNw (zPR (zNw (zPR (zNw st 1 948) o 1 (some (st).1)) 1 948) o 2 (some ((zPR (zNw st 1 948) o 1 (some (st).1))).1)) 1 6) o 9 (some ((zPR (zNw (zPR (zNw st 1 948) o 1 (some (st).1)) 1 948) o 2 (some ((zPR (zNw st 1 948) o 1 (some (st).1))).1))).1))).1)) 1 5) o 11 (some ((zPR (zNw (zPR (zNw (zPR (zNw (zPR (zNw st 1 948) o 1 (some (st).1)) 1 948) o 2 (some ((zPR (zNw st 1 948) o 1 (some (st).1))).1)) 1 6) o 9 (some ((zPR (zNw (zPR (zNw st 1 948) o 1 (some (st).1)) 1 948) o 2 (some ((zPR (zNw st 1 948) o 1 (some (st).1))).1))).1)) 2 64) o 10 (some ((zPR (zNw (zPR (zNw (zPR (zNw st 1 948) o 1 (some (st).1)) 1 948) o 2 (some ((zPR (zNw st 1 948) o 1 (some (st).1))).1)) 1 6) o 9 (some ((zPR (zNw (zPR (zNw st 1 948) o 1 (some (st).1)) 1 948) o 2 (some ((zPR (zNw st 1 948) o 1 (some (st).1))).1))).1))).1))).1)) 1 40) o 17 (some ((zPR (zNw (zPR (zNw (zPR (zNw (zPR (zNw (zPR (zNw st 1 948) o 1 (some (st).1)) 1 948) o 2 (some ((zPR (zNw st 1 948) o 1 (some (st).1))).1)) 1 6) o 9 (some ((zPR (zNw (zPR (zNw st 1 948) o 1 (some (st).1)) 1 948) o 2 (some ((zPR (zNw st 1 948) o 1 (some (st).1))).1))).1)) 2 64) o 10 (some ((zPR (zNw (zPR (zNw (zPR (zNw st 1 948) o 1 (some (st).1)) 1 948) o 2 (some ((zPR (zNw st 1 948) o 1 (some (st).1))).1)) 1 6) o 9 (some ((zPR (zNw (zPR (zNw st 1 948) o 1 (some (st).1)) 1 948) o 2 (some ((zPR (zNw st 1 948) o 1 (some (st).1))).1))).1))).1)) 1 5) o 11 (some ((zPR (zNw (zPR (zNw (zPR (zNw (zPR (zNw st 1 948) o 1 (some (st).1)) 1 948) o 2 (some ((zPR (zNw st 1 948) o 1 (some (st).1))).1)) 1 6) o 9 (some ((zPR (zNw (zPR (zNw st 1 948) o 1 (some (st).1)) 1 948) o 2 (some ((zPR (zNw st 1 948) o 1 (some (st).1))).1))).1)) 2 64) o 10 (some ((zPR (zNw (zPR (zNw (zPR (zNw st 1 948) o 1 (some (st).1)) 1 948) o 2 (some ((zPR (zNw st 1 948) o 1 (some (st).1))).1)) 1 6) o 9 (some ((zPR (zNw (zPR (zNw st 1 948) o 1 (some (st).1)) 1 948) o 2 (some ((zPR (zNw st 1 948) o 1 (some (st).1))).1))).1))).1))).1))).1))).1)) b8 ((nI 7)).toNatClampNeg (-1 : Int32))) else none) else none))) else none) else none) else none) else none) else none) else none) else none)
set_option maxHeartbeats 1000000 in
set_option maxRecDepth 100000 in
theorem c_X12_init (l : Launch) (G : zG) (st : zS) (o : Nat) {st' : zS} (h : f_X12_init st o = some st') : zMet l G yX12_init cX12_init 1 none 1 7 2031 [.ref (G.2.2.2 + o)] st none st' := by
  refine zMet_of (by decide +kernel) ?_
  intro p e s m args below meth c X
  obtain ⟨hx, hb, hr, hml, hown, hq, hlk, hK, -, hin, hW, hS⟩ := X
  have hown : s.vm.findClass RX12 = some m.cls := hown
  refine z_ent (by exact Nat.le_of_ble_eq_true rfl) (fun ls hl => ?_)
  have hl : lv_has ls 1 [(0, .ref (G.2.2.2 + o))] := hl
  unfold f_X12_init at h
  refine lv_aload_n hx hb dX12_init_0 rfl (lv_at hl 0 rfl) ?_
  refine W.objInit hx hb hown (hq _ (zi zm63)) (hq _ (zi zm10)) (hq _ (zi zm11)) rfl (by rw [hml]; exact hl.1) rfl dX12_init_1 (Nat.le_of_ble_eq_true rfl) (Nat.le_of_ble_eq_true rfl) ?_
  refine W.eq (g2 := F0 m 4 ls []) rfl ?_
  refine lv_aload_n hx hb dX12_init_4 rfl (lv_at hl 0 rfl) ?_
  refine lv_sipush (v := (nI 948)) hx hb dX12_init_5 (by decide) ?_
  refine z_nwI (N := 948) hx hb hq hK hW hS (zi zm45) (by decide) (by decide) (by decide) (Nat.le_of_ble_eq_true rfl) (Nat.le_of_ble_eq_true rfl) dX12_init_8 (fun H hW hS => ?_)
  obtain ⟨t1, h⟩ := zc_at h
  refine z_pR hx hb hq hown hK hW hS fp_RX12_9 t1 (fun _ => hin) (fun _ => rfl) (fun _ => rfl) dX12_init_10 (fun H locs hW hS => ?_)
  refine lv_aload_n hx hb dX12_init_13 rfl (lv_at hl 0 rfl) ?_
  refine lv_sipush (v := (nI 948)) hx hb dX12_init_14 (by decide) ?_
  refine z_nwI (N := 948) hx hb hq hK hW hS (zi zm45) (by decide) (by decide) (by decide) (Nat.le_of_ble_eq_true rfl) (Nat.le_of_ble_eq_true rfl) dX12_init_17 (fun H hW hS => ?_)
  obtain ⟨t2, h⟩ := zc_at h
  refine z_pR hx hb hq hown hK hW hS fp_RX12_15 t2 (fun _ => hin) (fun _ => rfl) (fun _ => rfl) dX12_init_19 (fun H locs hW hS => ?_)
  refine lv_aload_n hx hb dX12_init_22 rfl (lv_at hl 0 rfl) ?_
  refine lv_bipush (v := (nI 6)) hx hb dX12_init_23 (by decide) ?_
  refine z_nwI (N := 6) hx hb hq hK hW hS (zi zm45) (by decide) (by decide) (by decide) (Nat.le_of_ble_eq_true rfl) (Nat.le_of_ble_eq_true rfl) dX12_init_25 (fun H hW hS => ?_)
  obtain ⟨t3, h⟩ := zc_at h
  refine z_pR hx hb hq hown hK hW hS fp_RX12_18 t3 (fun _ => hin) (fun _ => rfl) (fun _ => rfl) dX12_init_27 (fun H locs hW hS => ?_)
  refine lv_aload_n hx hb dX12_init_30 rfl (lv_at hl 0 rfl) ?_
  refine lv_bipush (v := (nI 64)) hx hb dX12_init_31 (by decide) ?_
  refine z_nwZ (N := 64) hx hb hq hK hW hS (zi zm67) (by decide) (by decide) (by decide) (Nat.le_of_ble_eq_true rfl) (Nat.le_of_ble_eq_true rfl) dX12_init_33 (fun H hW hS => ?_)
  obtain ⟨t4, h⟩ := zc_at h
  refine z_pR hx hb hq hown hK hW hS fp_RX12_21 t4 (fun _ => hin) (fun _ => rfl) (fun _ => rfl) dX12_init_35 (fun H locs hW hS => ?_)
  refine lv_aload_n hx hb dX12_init_38 rfl (lv_at hl 0 rfl) ?_
  refine lv_iconst (v := (nI 5)) hx hb dX12_init_39 (by decide) ?_
  refine z_nwI (N := 5) hx hb hq hK hW hS (zi zm45) (by decide) (by decide) (by decide) (Nat.le_of_ble_eq_true rfl) (Nat.le_of_ble_eq_true rfl) dX12_init_40 (fun H hW hS => ?_)
  obtain ⟨t5, h⟩ := zc_at h
  refine z_pR hx hb hq hown hK hW hS fp_RX12_25 t5 (fun _ => hin) (fun _ => rfl) (fun _ => rfl) dX12_init_42 (fun H locs hW hS => ?_)
  refine lv_aload_n hx hb dX12_init_45 rfl (lv_at hl 0 rfl) ?_
  refine lv_bipush (v := (nI 40)) hx hb dX12_init_46 (by decide) ?_
  refine z_nwI (N := 40) hx hb hq hK hW hS (zi zm45) (by decide) (by decide) (by decide) (Nat.le_of_ble_eq_true rfl) (Nat.le_of_ble_eq_true rfl) dX12_init_48 (fun H hW hS => ?_)
  obtain ⟨t6, h⟩ := zc_at h
  refine z_pR hx hb hq hown hK hW hS fp_RX12_28 t6 (fun _ => hin) (fun _ => rfl) (fun _ => rfl) dX12_init_50 (fun H locs hW hS => ?_)
  refine lv_aload_n hx hb dX12_init_53 rfl (lv_at hl 0 rfl) ?_
  refine lv_bipush (v := (nI 20)) hx hb dX12_init_54 (by decide) ?_
  refine z_nwI (N := 20) hx hb hq hK hW hS (zi zm45) (by decide) (by decide) (by decide) (Nat.le_of_ble_eq_true rfl) (Nat.le_of_ble_eq_true rfl) dX12_init_56 (fun H hW hS => ?_)
  obtain ⟨t7, h⟩ := zc_at h
  refine z_pR hx hb hq hown hK hW hS fp_RX12_31 t7 (fun _ => hin) (fun _ => rfl) (fun _ => rfl) dX12_init_58 (fun H locs hW hS => ?_)
  refine lv_aload_n hx hb dX12_init_61 rfl (lv_at hl 0 rfl) ?_
  obtain ⟨b8, hb8, h⟩ := zd_at h
  refine z_gR hx hb hq hown hK hW fs_RX12_9 t7 hb8 dX12_init_62 ?_
  refine lv_bipush (v := (nI 7)) hx hb dX12_init_65 (by decide) ?_
  refine lv_iconst (v := (-1)) hx hb dX12_init_67 (by decide) ?_
  obtain ⟨t9, h⟩ := zc_at h
  obtain ⟨t10, h⟩ := zc_at h
  refine z_asI hx hb hK hW hS (List.mem_singleton.mp t9) t10 dX12_init_68 (fun H locs hW hS => ?_)
  obtain rfl := Option.some.inj h
  exact z_rv hx hb hr hlk hW hS (Nat.le_of_ble_eq_true rfl) (Nat.le_of_ble_eq_true rfl) dX12_init_69
def f_X12_in (a0 : Int32) (a1 : Int32) (a2 : Int32) : Option Int32 := (if a0 < a1 then (some (nI 0)) else (if a2 < a0 then (some (nI 0)) else (some (nI 1))))
set_option maxHeartbeats 1000000 in
set_option maxRecDepth 100000 in
theorem c_X12_in (l : Launch) (G : zG) (st : zS) (a0 : Int32) (a1 : Int32) (a2 : Int32) {r : Int32} (h : f_X12_in a0 a1 a2 = some r) : zMet l G yX12_in cX12_in 3 (some .boolean) 0 0 0 [.int a0, .int a1, .int a2] st (some (.int r)) st := by
  refine zMet_of (by decide +kernel) ?_
  intro p e s m args below meth c X
  obtain ⟨hx, hb, hr, hml, hown, hq, hlk, hK, -, hin, hW, hS⟩ := X
  have hown : s.vm.findClass RX12 = some m.cls := hown
  refine z_ent (by exact Nat.le_of_ble_eq_true rfl) (fun ls hl => ?_)
  have hl : lv_has ls 3 [(0, .int a0), (1, .int a1), (2, .int a2)] := hl
  unfold f_X12_in at h
  refine lv_iload_n hx hb dX12_in_0 rfl (lv_at hl 0 rfl) ?_
  refine lv_iload_n hx hb dX12_in_1 rfl (lv_at hl 1 rfl) ?_
  refine z_br (lv_icmp_lt (tgt := 14) hx hb dX12_in_2 (by decide)) h (fun h => ?_) (fun h => ?_)
  · refine lv_iconst (v := (nI 0)) hx hb dX12_in_14 (by decide) ?_
    obtain rfl := Option.some.inj h
    exact z_rz hx hb hr hlk rfl hW hS (Nat.le_of_ble_eq_true rfl) (Nat.le_of_ble_eq_true rfl) dX12_in_15
  · refine lv_iload_n hx hb dX12_in_5 rfl (lv_at hl 0 rfl) ?_
    refine lv_iload_n hx hb dX12_in_6 rfl (lv_at hl 2 rfl) ?_
    refine z_br (lv_icmp_gt (tgt := 14) hx hb dX12_in_7 (by decide)) h (fun h => ?_) (fun h => ?_)
    · refine lv_iconst (v := (nI 0)) hx hb dX12_in_14 (by decide) ?_
      obtain rfl := Option.some.inj h
      exact z_rz hx hb hr hlk rfl hW hS (Nat.le_of_ble_eq_true rfl) (Nat.le_of_ble_eq_true rfl) dX12_in_15
    · refine lv_iconst (v := (nI 1)) hx hb dX12_in_10 (by decide) ?_
      refine lv_goto (tgt := 15) hx hb dX12_in_11 (by decide) ?_
      obtain rfl := Option.some.inj h
      exact z_rz hx hb hr hlk rfl hW hS (Nat.le_of_ble_eq_true rfl) (Nat.le_of_ble_eq_true rfl) dX12_in_15
def f_X12_within (a0 : Int32) (a1 : Int32) (a2 : Int32) : Option Int32 := (if a1 ≤ a0 then (if a0 ≤ a2 then (some a0) else (some a2)) else (some a1))
set_option maxHeartbeats 1000000 in
set_option maxRecDepth 100000 in
theorem c_X12_within (l : Launch) (G : zG) (st : zS) (a0 : Int32) (a1 : Int32) (a2 : Int32) {r : Int32} (h : f_X12_within a0 a1 a2 = some r) : zMet l G yX12_within cX12_within 3 (some .int) 0 0 0 [.int a0, .int a1, .int a2] st (some (.int r)) st := by
  refine zMet_of (by decide +kernel) ?_
  intro p e s m args below meth c X
  obtain ⟨hx, hb, hr, hml, hown, hq, hlk, hK, -, hin, hW, hS⟩ := X
  have hown : s.vm.findClass RX12 = some m.cls := hown
  refine z_ent (by exact Nat.le_of_ble_eq_true rfl) (fun ls hl => ?_)
  have hl : lv_has ls 3 [(0, .int a0), (1, .int a1), (2, .int a2)] := hl
  unfold f_X12_within at h
  refine lv_iload_n hx hb dX12_within_0 rfl (lv_at hl 0 rfl) ?_
  refine lv_iload_n hx hb dX12_within_1 rfl (lv_at hl 1 rfl) ?_
  refine z_br (lv_icmp_ge (tgt := 9) hx hb dX12_within_2 (by decide)) h (fun h => ?_) (fun h => ?_)
  · refine lv_iload_n hx hb dX12_within_9 rfl (lv_at hl 0 rfl) ?_
    refine lv_iload_n hx hb dX12_within_10 rfl (lv_at hl 2 rfl) ?_
    refine z_br (lv_icmp_le (tgt := 18) hx hb dX12_within_11 (by decide)) h (fun h => ?_) (fun h => ?_)
    · refine lv_iload_n hx hb dX12_within_18 rfl (lv_at hl 0 rfl) ?_
      obtain rfl := Option.some.inj h
      exact z_ri hx hb hr hlk hW hS (Nat.le_of_ble_eq_true rfl) (Nat.le_of_ble_eq_true rfl) dX12_within_19
    · refine lv_iload_n hx hb dX12_within_14 rfl (lv_at hl 2 rfl) ?_
      refine lv_goto (tgt := 19) hx hb dX12_within_15 (by decide) ?_
      obtain rfl := Option.some.inj h
      exact z_ri hx hb hr hlk hW hS (Nat.le_of_ble_eq_true rfl) (Nat.le_of_ble_eq_true rfl) dX12_within_19
  · refine lv_iload_n hx hb dX12_within_5 rfl (lv_at hl 1 rfl) ?_
    refine lv_goto (tgt := 19) hx hb dX12_within_6 (by decide) ?_
    obtain rfl := Option.some.inj h
    exact z_ri hx hb hr hlk hW hS (Nat.le_of_ble_eq_true rfl) (Nat.le_of_ble_eq_true rfl) dX12_within_19
def f_X12_isWay (st : zS) (o : Nat) (a1 : Int32) : Option Int32 := (if zTg st o ∈ [22] then (Option.bind (zR st o 1) (fun b2 => (if zTg st b2 ∈ [1] then (if zin (nI 0) (zLn st b2) then (Option.bind (f_X12_in a1 (nI 0) ((zM st b2 ((nI 0)).toNatClampNeg) - (nI 1))) (fun r6 => (if zB r6 then (some r6) else none))) else none) else none))) else none)
set_option maxHeartbeats 1000000 in
set_option maxRecDepth 100000 in
theorem c_X12_isWay (l : Launch) (G : zG) (st : zS) (o : Nat) (a1 : Int32) {r : Int32} (h : f_X12_isWay st o a1 = some r) : zMet l G yX12_isWay cX12_isWay 2 (some .boolean) 1 0 0 [.ref (G.2.2.2 + o), .int a1] st (some (.int r)) st := by
  refine zMet_of (by decide +kernel) ?_
  intro p e s m args below meth c X
  obtain ⟨hx, hb, hr, hml, hown, hq, hlk, hK, -, hin, hW, hS⟩ := X
  have hown : s.vm.findClass RX12 = some m.cls := hown
  refine z_ent (by exact Nat.le_of_ble_eq_true rfl) (fun ls hl => ?_)
  have hl : lv_has ls 2 [(0, .ref (G.2.2.2 + o)), (1, .int a1)] := hl
  unfold f_X12_isWay at h
  refine lv_iload_n hx hb dX12_isWay_0 rfl (lv_at hl 1 rfl) ?_
  refine lv_iconst (v := (nI 0)) hx hb dX12_isWay_1 (by decide) ?_
  refine lv_aload_n hx hb dX12_isWay_2 rfl (lv_at hl 0 rfl) ?_
  obtain ⟨t1, h⟩ := zc_at h
  obtain ⟨b2, hb2, h⟩ := zd_at h
  refine z_gR hx hb hq hown hK hW fs_RX12_9 t1 hb2 dX12_isWay_3 ?_
  refine lv_iconst (v := (nI 0)) hx hb dX12_isWay_6 (by decide) ?_
  obtain ⟨t3, h⟩ := zc_at h
  obtain ⟨t4, h⟩ := zc_at h
  refine z_alI hx hb hK hW (List.mem_singleton.mp t3) t4 dX12_isWay_7 ?_
  refine lv_iconst (v := (nI 1)) hx hb dX12_isWay_8 (by decide) ?_
  refine lv_isub hx hb dX12_isWay_9 ?_
  obtain ⟨r6, c5, h⟩ := zd_at h
  refine z_cS hx hb hq hml hown hK hW hS [.int a1, .int ((nI 0)), .int (((zM st b2 ((nI 0)).toNatClampNeg) - (nI 1)))] [] (c_X12_in l G st a1 (nI 0) ((zM st b2 ((nI 0)).toNatClampNeg) - (nI 1)) c5) (zi zm90) (zi zm91) (zi zm5) (zi zm92) cal_X12_in rfl hl.1 rfl (Nat.le_of_ble_eq_true rfl) (zR_ok (by omega) (by decide)) ⟨(Nat.le_of_ble_eq_true rfl), (Nat.le_of_ble_eq_true rfl)⟩ dX12_isWay_10 (fun H locs hW hS => ?_)
  refine W.eq (g2 := F0 m 13 ls [.int r6]) rfl ?_
  obtain ⟨t7, h⟩ := zc_at h
  obtain rfl := Option.some.inj h
  exact z_rz hx hb hr hlk (zB_n t7) hW hS (Nat.le_of_ble_eq_true rfl) (Nat.le_of_ble_eq_true rfl) dX12_isWay_13
def f_X12_feed (st : zS) (o : Nat) (a1 : Int32) : Option (zS × Int32) := (Option.bind (f_X12_in a1 (nI 0) (nI 127)) (fun r2 => (if r2 = 0 then (some (st, (-2 : Int32))) else (if zTg st o ∈ [22] then (Option.bind (zR st o 1) (fun b4 => (if zTg st b4 ∈ [1] then (if zin (nI 6) (zLn st b4) then (if (zM st b4 ((nI 6)).toNatClampNeg) = (nI 100) then (some (st, (-4 : Int32))) else (if zin (nI 6) (zLn st b4) then (if zin ((nI 128) + (zM st b4 ((nI 6)).toNatClampNeg)) (zLn st b4) then (if zin (nI 6) (zLn (zPM st b4 (((nI 128) + (zM st b4 ((nI 6)).toNatClampNeg))).toNatClampNeg a1) b4) then (if zin (nI 6) (zLn (zPM st b4 (((nI 128) + (zM st b4 ((nI 6)).toNatClampNeg))).toNatClampNeg a1) b4) then (if zin (nI 6) (zLn (zPM (zPM st b4 (((nI 128) + (zM st b4 ((nI 6)).toNatClampNeg))).toNatClampNeg a1) b4 ((nI 6)).toNatClampNeg ((zM (zPM st b4 (((nI 128) + (zM st b4 ((nI 6)).toNatClampNeg))).toNatClampNeg a1) b4 ((nI 6)).toNatClampNeg) + (nI 1))) b4) then (some ((zPM (zPM st b4 (((nI 128) + (zM st b4 ((nI 6)).toNatClampNeg))).toNatClampNeg a1) b4 ((nI 6)).toNatClampNeg ((zM (zPM st b4 (((nI 128) + (zM st b4 ((nI 6)).toNatClampNeg))).toNatClampNeg a1) b4 ((nI 6)).toNatClampNeg) + (nI 1))), (zM (zPM (zPM st b4 (((nI 128) + (zM st b4 ((nI 6)).toNatClampNeg))).toNatClampNeg a1) b4 ((nI 6)).toNatClampNeg ((zM (zPM st b4 (((nI 128) + (zM st b4 ((nI 6)).toNatClampNeg))).toNatClampNeg a1) b4 ((nI 6)).toNatClampNeg) + (nI 1))) b4 ((nI 6)).toNatClampNeg))) else none) else none) else none) else none) else none)) else none) else none))) else none))))
set_option maxHeartbeats 1000000 in
set_option maxRecDepth 100000 in
theorem c_X12_feed (l : Launch) (G : zG) (st : zS) (o : Nat) (a1 : Int32) {st' : zS} {r : Int32} (h : f_X12_feed st o a1 = some (st', r)) : zMet l G yX12_feed cX12_feed 2 (some .int) 1 0 0 [.ref (G.2.2.2 + o), .int a1] st (some (.int r)) st' := by
  refine zMet_of (by decide +kernel) ?_
  intro p e s m args below meth c X
  obtain ⟨hx, hb, hr, hml, hown, hq, hlk, hK, -, hin, hW, hS⟩ := X
  have hown : s.vm.findClass RX12 = some m.cls := hown
  refine z_ent (by exact Nat.le_of_ble_eq_true rfl) (fun ls hl => ?_)
  have hl : lv_has ls 2 [(0, .ref (G.2.2.2 + o)), (1, .int a1)] := hl
  unfold f_X12_feed at h
  refine lv_iload_n hx hb dX12_feed_0 rfl (lv_at hl 1 rfl) ?_
  refine lv_iconst (v := (nI 0)) hx hb dX12_feed_1 (by decide) ?_
  refine lv_bipush (v := (nI 127)) hx hb dX12_feed_2 (by decide) ?_
  obtain ⟨r2, c1, h⟩ := zd_at h
  refine z_cS hx hb hq hml hown hK hW hS [.int a1, .int ((nI 0)), .int ((nI 127))] [] (c_X12_in l G st a1 (nI 0) (nI 127) c1) (zi zm90) (zi zm91) (zi zm5) (zi zm92) cal_X12_in rfl hl.1 rfl (Nat.le_of_ble_eq_true rfl) (zR_ok (by omega) (by decide)) ⟨(Nat.le_of_ble_eq_true rfl), (Nat.le_of_ble_eq_true rfl)⟩ dX12_feed_4 (fun H locs hW hS => ?_)
  refine W.eq (g2 := F0 m 7 ls [.int r2]) rfl ?_
  refine z_brn (lv_if_ne (tgt := 13) hx hb dX12_feed_7 (by decide)) h (fun h => ?_) (fun h => ?_)
  · refine lv_aload_n hx hb dX12_feed_13 rfl (lv_at hl 0 rfl) ?_
    obtain ⟨t3, h⟩ := zc_at h
    obtain ⟨b4, hb4, h⟩ := zd_at h
    refine z_gR hx hb hq hown hK hW fs_RX12_9 t3 hb4 dX12_feed_14 ?_
    refine lv_bipush (v := (nI 6)) hx hb dX12_feed_17 (by decide) ?_
    obtain ⟨t5, h⟩ := zc_at h
    obtain ⟨t6, h⟩ := zc_at h
    refine z_alI hx hb hK hW (List.mem_singleton.mp t5) t6 dX12_feed_19 ?_
    refine lv_bipush (v := (nI 100)) hx hb dX12_feed_20 (by decide) ?_
    refine z_brn (lv_icmp_ne (tgt := 28) hx hb dX12_feed_22 (by decide)) h (fun h => ?_) (fun h => ?_)
    · refine lv_aload_n hx hb dX12_feed_28 rfl (lv_at hl 0 rfl) ?_
      refine z_gR hx hb hq hown hK hW fs_RX12_9 t3 hb4 dX12_feed_29 ?_
      refine lv_sipush (v := (nI 128)) hx hb dX12_feed_32 (by decide) ?_
      refine lv_aload_n hx hb dX12_feed_35 rfl (lv_at hl 0 rfl) ?_
      refine z_gR hx hb hq hown hK hW fs_RX12_9 t3 hb4 dX12_feed_36 ?_
      refine lv_bipush (v := (nI 6)) hx hb dX12_feed_39 (by decide) ?_
      obtain ⟨t7, h⟩ := zc_at h
      refine z_alI hx hb hK hW (List.mem_singleton.mp t5) t7 dX12_feed_41 ?_
      refine lv_iadd hx hb dX12_feed_42 ?_
      refine lv_iload_n hx hb dX12_feed_43 rfl (lv_at hl 1 rfl) ?_
      obtain ⟨t8, h⟩ := zc_at h
      refine z_asI hx hb hK hW hS (List.mem_singleton.mp t5) t8 dX12_feed_44 (fun H locs hW hS => ?_)
      refine lv_aload_n hx hb dX12_feed_45 rfl (lv_at hl 0 rfl) ?_
      refine z_gR hx hb hq hown hK hW fs_RX12_9 t3 hb4 dX12_feed_46 ?_
      refine lv_bipush (v := (nI 6)) hx hb dX12_feed_49 (by decide) ?_
      refine lv_dup2_11 hx hb dX12_feed_51 rfl rfl ?_
      obtain ⟨t9, h⟩ := zc_at h
      refine z_alI hx hb hK hW (List.mem_singleton.mp t5) t9 dX12_feed_52 ?_
      refine lv_iconst (v := (nI 1)) hx hb dX12_feed_53 (by decide) ?_
      refine lv_iadd hx hb dX12_feed_54 ?_
      obtain ⟨t10, h⟩ := zc_at h
      refine z_asI hx hb hK hW hS (List.mem_singleton.mp t5) t10 dX12_feed_55 (fun H locs hW hS => ?_)
      refine lv_aload_n hx hb dX12_feed_56 rfl (lv_at hl 0 rfl) ?_
      refine z_gR hx hb hq hown hK hW fs_RX12_9 t3 hb4 dX12_feed_57 ?_
      refine lv_bipush (v := (nI 6)) hx hb dX12_feed_60 (by decide) ?_
      obtain ⟨t11, h⟩ := zc_at h
      refine z_alI hx hb hK hW (List.mem_singleton.mp t5) t11 dX12_feed_62 ?_
      obtain ⟨rfl, rfl⟩ := Prod.mk.inj (Option.some.inj h)
      exact z_ri hx hb hr hlk hW hS (Nat.le_of_ble_eq_true rfl) (Nat.le_of_ble_eq_true rfl) dX12_feed_63
    · refine lv_bipush (v := (-4)) hx hb dX12_feed_25 (by decide) ?_
      obtain ⟨rfl, rfl⟩ := Prod.mk.inj (Option.some.inj h)
      exact z_ri hx hb hr hlk hW hS (Nat.le_of_ble_eq_true rfl) (Nat.le_of_ble_eq_true rfl) dX12_feed_27
  · refine lv_bipush (v := (-2)) hx hb dX12_feed_10 (by decide) ?_
    obtain ⟨rfl, rfl⟩ := Prod.mk.inj (Option.some.inj h)
    exact z_ri hx hb hr hlk hW hS (Nat.le_of_ble_eq_true rfl) (Nat.le_of_ble_eq_true rfl) dX12_feed_12
def f_X12_here (st : zS) (o : Nat) : Option Int32 := (if zTg st o ∈ [22] then (if (zM st o 6) ≤ (zM st o 5) then (some (-1 : Int32)) else (Option.bind (zR st o 1) (fun b2 => (if zTg st b2 ∈ [1] then (if zin ((nI 128) + (zM st o 5)) (zLn st b2) then (some (zM st b2 (((nI 128) + (zM st o 5))).toNatClampNeg)) else none) else none)))) else none)
set_option maxHeartbeats 1000000 in
set_option maxRecDepth 100000 in
theorem c_X12_here (l : Launch) (G : zG) (st : zS) (o : Nat) {r : Int32} (h : f_X12_here st o = some r) : zMet l G yX12_here cX12_here 1 (some .int) 0 0 0 [.ref (G.2.2.2 + o)] st (some (.int r)) st := by
  refine zMet_of (by decide +kernel) ?_
  intro p e s m args below meth c X
  obtain ⟨hx, hb, hr, hml, hown, hq, hlk, hK, -, hin, hW, hS⟩ := X
  have hown : s.vm.findClass RX12 = some m.cls := hown
  refine z_ent (by exact Nat.le_of_ble_eq_true rfl) (fun ls hl => ?_)
  have hl : lv_has ls 1 [(0, .ref (G.2.2.2 + o))] := hl
  unfold f_X12_here at h
  refine lv_aload_n hx hb dX12_here_0 rfl (lv_at hl 0 rfl) ?_
  obtain ⟨t1, h⟩ := zc_at h
  refine z_gI hx hb hq hown hK hW fs_RX12_42 t1 dX12_here_1 ?_
  refine lv_aload_n hx hb dX12_here_4 rfl (lv_at hl 0 rfl) ?_
  refine z_gI hx hb hq hown hK hW fs_RX12_45 t1 dX12_here_5 ?_
  refine z_br (lv_icmp_ge (tgt := 27) hx hb dX12_here_8 (by decide)) h (fun h => ?_) (fun h => ?_)
  · refine lv_iconst (v := (-1)) hx hb dX12_here_27 (by decide) ?_
    obtain rfl := Option.some.inj h
    exact z_ri hx hb hr hlk hW hS (Nat.le_of_ble_eq_true rfl) (Nat.le_of_ble_eq_true rfl) dX12_here_28
  · refine lv_aload_n hx hb dX12_here_11 rfl (lv_at hl 0 rfl) ?_
    obtain ⟨b2, hb2, h⟩ := zd_at h
    refine z_gR hx hb hq hown hK hW fs_RX12_9 t1 hb2 dX12_here_12 ?_
    refine lv_sipush (v := (nI 128)) hx hb dX12_here_15 (by decide) ?_
    refine lv_aload_n hx hb dX12_here_18 rfl (lv_at hl 0 rfl) ?_
    refine z_gI hx hb hq hown hK hW fs_RX12_42 t1 dX12_here_19 ?_
    refine lv_iadd hx hb dX12_here_22 ?_
    obtain ⟨t3, h⟩ := zc_at h
    obtain ⟨t4, h⟩ := zc_at h
    refine z_alI hx hb hK hW (List.mem_singleton.mp t3) t4 dX12_here_23 ?_
    refine lv_goto (tgt := 28) hx hb dX12_here_24 (by decide) ?_
    obtain rfl := Option.some.inj h
    exact z_ri hx hb hr hlk hW hS (Nat.le_of_ble_eq_true rfl) (Nat.le_of_ble_eq_true rfl) dX12_here_28
def f_X12_must_21 (o : Nat) (a1 : Int32)  (st : zS) (y0 : Int32) : Option zS := (if zTg st o ∈ [22] then (if zB y0 then (if (zM (zPM st o 7 y0) o 7) = 0 then (some (zPM (zPM st o 7 y0) o 5 ((zM (zPM st o 7 y0) o 5) + (nI 1)))) else (some (zPM (zPM st o 7 y0) o 5 ((zM (zPM st o 7 y0) o 5) + (nI 0))))) else none) else none)
def f_X12_must_16 (o : Nat) (a1 : Int32)  (st : zS) : Option zS := (f_X12_must_21 o a1 st (nI 1))
def f_X12_must (st : zS) (o : Nat) (a1 : Int32) : Option zS := (if zTg st o ∈ [22] then (if (zM st o 7) = 0 then (Option.bind (f_X12_here st o) (fun r5 => (if r5 = a1 then (f_X12_must_21 o a1 st (nI 0)) else (f_X12_must_16 o a1 st)))) else (f_X12_must_16 o a1 st)) else none)
set_option maxHeartbeats 1000000 in
set_option maxRecDepth 100000 in
theorem c_X12_must (l : Launch) (G : zG) (st : zS) (o : Nat) (a1 : Int32) {st' : zS} (h : f_X12_must st o a1 = some st') : zMet l G yX12_must cX12_must 2 none 1 0 0 [.ref (G.2.2.2 + o), .int a1] st none st' := by
  refine zMet_of (by decide +kernel) ?_
  intro p e s m args below meth c X
  obtain ⟨hx, hb, hr, hml, hown, hq, hlk, hK, -, hin, hW, hS⟩ := X
  have hown : s.vm.findClass RX12 = some m.cls := hown
  refine z_ent (by exact Nat.le_of_ble_eq_true rfl) (fun ls hl => ?_)
  have hl : lv_has ls 2 [(0, .ref (G.2.2.2 + o)), (1, .int a1)] := hl
  unfold f_X12_must at h
  have B21 : ∀ (st : zS) (y0 : Int32) (H : Heap) (locs : List Loc) (ls : Array Slot), f_X12_must_21 o a1 st y0 = some st' → zWd G st H → va_S (zA G) s.heap H locs → lv_has ls 2 [(0, .ref (G.2.2.2 + o))] → W p l e (zRm 1 0 0) s m args below meth c H locs 0 0 (MQ below (zQ G none st') args s 0 0 (zA G)) (F0 m 21 ls [.int y0, .ref (G.2.2.2 + o)]) := by
    intro st y0 H locs ls h hW hS hl
    unfold f_X12_must_21 at h
    obtain ⟨t2, h⟩ := zc_at h
    obtain ⟨t3, h⟩ := zc_at h
    refine z_pI hx hb hq hown hK hW hS fp_RX12_48 t2 (fun h => by cases h) (zB_n t3) (zB_f t3) dX12_must_21 (fun H locs hW hS => ?_)
    refine lv_aload_n hx hb dX12_must_24 rfl (lv_at hl 0 rfl) ?_
    refine lv_dup hx hb dX12_must_25 rfl ?_
    refine z_gI hx hb hq hown hK hW fs_RX12_42 t2 dX12_must_26 ?_
    refine lv_aload_n hx hb dX12_must_29 rfl (lv_at hl 0 rfl) ?_
    refine z_gI hx hb hq hown hK hW fs_RX12_48 t2 dX12_must_30 ?_
    refine z_br (lv_if_eq (tgt := 40) hx hb dX12_must_33 (by decide)) h (fun h => ?_) (fun h => ?_)
    · refine lv_iconst (v := (nI 1)) hx hb dX12_must_40 (by decide) ?_
      refine lv_iadd hx hb dX12_must_41 ?_
      refine z_pI hx hb hq hown hK hW hS fp_RX12_42 t2 (fun h => by cases h) rfl rfl dX12_must_42 (fun H locs hW hS => ?_)
      obtain rfl := Option.some.inj h
      exact z_rv hx hb hr hlk hW hS (Nat.le_of_ble_eq_true rfl) (Nat.le_of_ble_eq_true rfl) dX12_must_45
    · refine lv_iconst (v := (nI 0)) hx hb dX12_must_36 (by decide) ?_
      refine lv_goto (tgt := 41) hx hb dX12_must_37 (by decide) ?_
      refine lv_iadd hx hb dX12_must_41 ?_
      refine z_pI hx hb hq hown hK hW hS fp_RX12_42 t2 (fun h => by cases h) rfl rfl dX12_must_42 (fun H locs hW hS => ?_)
      obtain rfl := Option.some.inj h
      exact z_rv hx hb hr hlk hW hS (Nat.le_of_ble_eq_true rfl) (Nat.le_of_ble_eq_true rfl) dX12_must_45
  have B16 : ∀ (st : zS) (H : Heap) (locs : List Loc) (ls : Array Slot), f_X12_must_16 o a1 st = some st' → zWd G st H → va_S (zA G) s.heap H locs → lv_has ls 2 [(0, .ref (G.2.2.2 + o))] → W p l e (zRm 1 0 0) s m args below meth c H locs 0 0 (MQ below (zQ G none st') args s 0 0 (zA G)) (F0 m 16 ls [.ref (G.2.2.2 + o)]) := by
    intro st H locs ls h hW hS hl
    unfold f_X12_must_16 at h
    refine lv_iconst (v := (nI 1)) hx hb dX12_must_16 (by decide) ?_
    refine lv_goto (tgt := 21) hx hb dX12_must_17 (by decide) ?_
    exact B21 st (nI 1) _ _ _ h hW hS (lv_sub hl [0] rfl)
  refine lv_aload_n hx hb dX12_must_0 rfl (lv_at hl 0 rfl) ?_
  refine lv_aload_n hx hb dX12_must_1 rfl (lv_at hl 0 rfl) ?_
  obtain ⟨t1, h⟩ := zc_at h
  refine z_gI hx hb hq hown hK hW fs_RX12_48 t1 dX12_must_2 ?_
  refine z_brn (lv_if_ne (tgt := 16) hx hb dX12_must_5 (by decide)) h (fun h => ?_) (fun h => ?_)
  · exact B16 st _ _ _ h hW hS (lv_sub hl [0] rfl)
  · refine lv_aload_n hx hb dX12_must_8 rfl (lv_at hl 0 rfl) ?_
    obtain ⟨r5, c4, h⟩ := zd_at h
    refine z_cV hx hb hq hml hown hK hW hS 12 [] [.ref (G.2.2.2 + o)] rfl (List.mem_singleton.mp t1) (c_X12_here l G st o c4) (zi zm290) (zi zm291) (zi zm292) (zi zm5) (zi zm293) cal_X12_here rfl rfl hl.1 rfl (Nat.le_of_ble_eq_true rfl) (zR_ok (by omega) (by decide)) ⟨(Nat.le_of_ble_eq_true rfl), (Nat.le_of_ble_eq_true rfl)⟩ dX12_must_9 (fun H locs hW hS => ?_)
    refine W.eq (g2 := F0 m 12 ls [.int r5, .ref (G.2.2.2 + o)]) rfl ?_
    refine lv_iload_n hx hb dX12_must_12 rfl (lv_at hl 1 rfl) ?_
    refine z_br (lv_icmp_eq (tgt := 20) hx hb dX12_must_13 (by decide)) h (fun h => ?_) (fun h => ?_)
    · refine lv_iconst (v := (nI 0)) hx hb dX12_must_20 (by decide) ?_
      exact B21 st (nI 0) _ _ _ h hW hS (lv_sub hl [0] rfl)
    · exact B16 st _ _ _ h hW hS (lv_sub hl [0] rfl)
def f_X12_spells_2 (N : Nat) (o : Nat) (a1 : Nat)  : Nat → zS → Int32 → Option zS
  | 0, _, _ => none
  | n2 + 1, st, x2 => (if a1 < zsN then (Option.bind (f_J0_length_8abf5 a1) (fun r3 => (if r3 ≤ x2 then (some st) else (Option.bind (f_J0_charAt_5068e a1 x2) (fun r5 => (if zTg st o ∈ [22] then (Option.bind (f_X12_must st o r5) (fun st8 => ((f_X12_spells_2 N o a1 n2) st8 (x2 + (nI 1))))) else none)))))) else none)
def f_X12_spells (N : Nat) (st : zS) (o : Nat) (a1 : Nat) : Option zS := (f_X12_spells_2 N o a1 N st (nI 0))
set_option maxHeartbeats 1000000 in
set_option maxRecDepth 100000 in
theorem c_X12_spells (l : Launch) (G : zG) (N : Nat) (st : zS) (o : Nat) (a1 : Nat) {st' : zS} (h : f_X12_spells N st o a1 = some st') : zMet l G yX12_spells cX12_spells 3 none 5 0 0 [.ref (G.2.2.2 + o), .ref (G.2.2.1.1 (a1))] st none st' := by
  refine zMet_of (by decide +kernel) ?_
  intro p e s m args below meth c X
  obtain ⟨hx, hb, hr, hml, hown, hq, hlk, hK, -, hin, hW, hS⟩ := X
  have hown : s.vm.findClass RX12 = some m.cls := hown
  refine z_ent (by exact Nat.le_of_ble_eq_true rfl) (fun ls hl => ?_)
  have hl : lv_has ls 3 [(0, .ref (G.2.2.2 + o)), (1, .ref (G.2.2.1.1 (a1)))] := hl
  unfold f_X12_spells at h
  have B2 : ∀ (n2 : Nat) (st : zS) (x2 : Int32) (H : Heap) (locs : List Loc) (ls : Array Slot), f_X12_spells_2 N o a1 n2 st x2 = some st' → zWd G st H → va_S (zA G) s.heap H locs → lv_has ls 3 [(0, .ref (G.2.2.2 + o)), (1, .ref (G.2.2.1.1 (a1))), (2, .int x2)] → W p l e (zRm 5 0 0) s m args below meth c H locs 0 0 (MQ below (zQ G none st') args s 0 0 (zA G)) (F0 m 2 ls []) := by
    intro n2
    induction n2 with
    | zero =>
      intro st x2 H locs ls h
      unfold f_X12_spells_2 at h
      cases h
    | succ n2 ih2 =>
      intro st x2 H locs ls h hW hS hl
      unfold f_X12_spells_2 at h
      refine lv_iload_n hx hb dX12_spells_2 rfl (lv_at hl 2 rfl) ?_
      refine lv_aload_n hx hb dX12_spells_3 rfl (lv_at hl 1 rfl) ?_
      obtain ⟨t1, h⟩ := zc_at h
      obtain ⟨r3, c2, h⟩ := zd_at h
      refine z_cStr hx hb hq hml hown hK hW hS t1 [] [.int x2] (c_J0_length_8abf5 l G st a1 c2) (zi zm302) (zi zm125) (zi zm126) (zi zm127) (zi zm128) cal_J0_length_8abf5 rfl rfl hl.1 rfl (Nat.le_of_ble_eq_true rfl) (zR_ok (by omega) (by decide)) ⟨(Nat.le_of_ble_eq_true rfl), (Nat.le_of_ble_eq_true rfl)⟩ dX12_spells_4 (fun H locs hW hS => ?_)
      refine W.eq (g2 := F0 m 7 ls [.int r3, .int x2]) rfl ?_
      refine z_br (lv_icmp_ge (tgt := 25) hx hb dX12_spells_7 (by decide)) h (fun h => ?_) (fun h => ?_)
      · obtain rfl := Option.some.inj h
        exact z_rv hx hb hr hlk hW hS (Nat.le_of_ble_eq_true rfl) (Nat.le_of_ble_eq_true rfl) dX12_spells_25
      · refine lv_aload_n hx hb dX12_spells_10 rfl (lv_at hl 0 rfl) ?_
        refine lv_aload_n hx hb dX12_spells_11 rfl (lv_at hl 1 rfl) ?_
        refine lv_iload_n hx hb dX12_spells_12 rfl (lv_at hl 2 rfl) ?_
        obtain ⟨r5, c4, h⟩ := zd_at h
        refine z_cStr hx hb hq hml hown hK hW hS t1 [.int x2] [.ref (G.2.2.2 + o)] (c_J0_charAt_5068e l G st a1 x2 c4) (zi zm303) (zi zm137) (zi zm138) (zi zm127) (zi zm139) cal_J0_charAt_5068e rfl rfl hl.1 rfl (Nat.le_of_ble_eq_true rfl) (zR_ok (by omega) (by decide)) ⟨(Nat.le_of_ble_eq_true rfl), (Nat.le_of_ble_eq_true rfl)⟩ dX12_spells_13 (fun H locs hW hS => ?_)
        refine W.eq (g2 := F0 m 16 ls [.int r5, .ref (G.2.2.2 + o)]) rfl ?_
        obtain ⟨t6, h⟩ := zc_at h
        obtain ⟨st8, c7, h⟩ := zd_at h
        refine z_cV hx hb hq hml hown hK hW hS 12 [.int r5] [] rfl (List.mem_singleton.mp t6) (c_X12_must l G st o r5 c7) (zi zm304) (zi zm305) (zi zm306) (zi zm5) (zi zm307) cal_X12_must rfl rfl hl.1 rfl (Nat.le_of_ble_eq_true rfl) (zR_ok (by omega) (by decide)) ⟨(Nat.le_of_ble_eq_true rfl), (Nat.le_of_ble_eq_true rfl)⟩ dX12_spells_16 (fun H locs hW hS => ?_)
        refine W.eq (g2 := F0 m 19 ls []) rfl ?_
        refine lv_iinc (v := (x2 + (nI 1))) (lv' := [(2, .int ((x2 + (nI 1)))), (0, .ref (G.2.2.2 + o)), (1, .ref (G.2.2.1.1 (a1)))]) hx hb dX12_spells_19 hl (k := 2) rfl rfl (by decide) rfl (fun ls hl => ?_)
        refine lv_goto (tgt := 2) hx hb dX12_spells_22 (by decide) ?_
        exact ih2 st8 (x2 + (nI 1)) _ _ _ h hW hS (lv_sub hl [1, 2, 0] rfl)
  refine lv_iconst (v := (nI 0)) hx hb dX12_spells_0 (by decide) ?_
  refine lv_istore_n (lv' := [(2, .int ((nI 0))), (0, .ref (G.2.2.2 + o)), (1, .ref (G.2.2.1.1 (a1)))]) hx hb dX12_spells_1 rfl hl (by decide) rfl (fun ls hl => ?_)
  exact B2 N st (nI 0) _ _ _ h hW hS (lv_sub hl [1, 2, 0] rfl)
def f_X12_figures_68 (N : Nat) (o : Nat) (k34 : zS → Int32 → Int32 → Option (zS × Int32)) (st : zS) (x1 : Int32) (x2 : Int32) : Option (zS × Int32) := (if zTg st o ∈ [22] then (Option.bind (f_X12_here st o) (fun r10 => (zl ((((nI 10) * x1) + r10) - (nI 48)) (fun v11 => (k34 (zPM st o 5 ((zM st o 5) + (nI 1))) v11 (x2 + (nI 1))))))) else none)
def f_X12_figures_34 (N : Nat) (o : Nat)  : Nat → zS → Int32 → Int32 → Option (zS × Int32)
  | 0, _, _, _ => none
  | n34 + 1, st, x1, x2 => (if (nI 2) ≤ x2 then (some (st, x1)) else (if zTg st o ∈ [22] then (if (zM st o 7) = 0 then (Option.bind (f_X12_here st o) (fun r5 => (Option.bind (f_X12_in r5 (nI 48) (nI 57)) (fun r7 => (if r7 = 0 then (some (st, x1)) else (if x2 = 0 then (f_X12_figures_68 N o (f_X12_figures_34 N o n34) st x1 x2) else (if x1 ≤ 0 then (some (st, x1)) else (f_X12_figures_68 N o (f_X12_figures_34 N o n34) st x1 x2)))))))) else (some (st, x1))) else none))
def f_X12_figures_27 (N : Nat) (o : Nat)  (st : zS) (y0 : Int32) : Option (zS × Int32) := (if zTg st o ∈ [22] then (if zB y0 then (f_X12_figures_34 N o N (zPM st o 7 y0) (nI 0) (nI 0)) else none) else none)
def f_X12_figures_22 (N : Nat) (o : Nat)  (st : zS) : Option (zS × Int32) := (f_X12_figures_27 N o st (nI 1))
def f_X12_figures (N : Nat) (st : zS) (o : Nat) : Option (zS × Int32) := (if zTg st o ∈ [22] then (if (zM st o 7) = 0 then (Option.bind (f_X12_here st o) (fun r14 => (Option.bind (f_X12_in r14 (nI 48) (nI 57)) (fun r16 => (if r16 = 0 then (f_X12_figures_22 N o st) else (f_X12_figures_27 N o st (nI 0))))))) else (f_X12_figures_22 N o st)) else none)
set_option maxHeartbeats 1000000 in
set_option maxRecDepth 100000 in
theorem c_X12_figures (l : Launch) (G : zG) (N : Nat) (st : zS) (o : Nat) {st' : zS} {r : Int32} (h : f_X12_figures N st o = some (st', r)) : zMet l G yX12_figures cX12_figures 3 (some .int) 1 0 0 [.ref (G.2.2.2 + o)] st (some (.int r)) st' := by
  refine zMet_of (by decide +kernel) ?_
  intro p e s m args below meth c X
  obtain ⟨hx, hb, hr, hml, hown, hq, hlk, hK, -, hin, hW, hS⟩ := X
  have hown : s.vm.findClass RX12 = some m.cls := hown
  refine z_ent (by exact Nat.le_of_ble_eq_true rfl) (fun ls hl => ?_)
  have hl : lv_has ls 3 [(0, .ref (G.2.2.2 + o))] := hl
  unfold f_X12_figures at h
  have B34 : ∀ (n34 : Nat) (st : zS) (x1 : Int32) (x2 : Int32) (H : Heap) (locs : List Loc) (ls : Array Slot), f_X12_figures_34 N o n34 st x1 x2 = some (st', r) → zWd G st H → va_S (zA G) s.heap H locs → lv_has ls 3 [(0, .ref (G.2.2.2 + o)), (1, .int x1), (2, .int x2)] → W p l e (zRm 1 0 0) s m args below meth c H locs 0 0 (MQ below (zQ G (some (.int r)) st') args s 0 0 (zA G)) (F0 m 34 ls []) := by
    intro n34
    induction n34 with
    | zero =>
      intro st x1 x2 H locs ls h
      unfold f_X12_figures_34 at h
      cases h
    | succ n34 ih34 =>
      have B68 : ∀ (st : zS) (x1 : Int32) (x2 : Int32) (H : Heap) (locs : List Loc) (ls : Array Slot), f_X12_figures_68 N o (f_X12_figures_34 N o n34) st x1 x2 = some (st', r) → zWd G st H → va_S (zA G) s.heap H locs → lv_has ls 3 [(0, .ref (G.2.2.2 + o)), (1, .int x1), (2, .int x2)] → W p l e (zRm 1 0 0) s m args below meth c H locs 0 0 (MQ below (zQ G (some (.int r)) st') args s 0 0 (zA G)) (F0 m 68 ls []) := by
        intro st x1 x2 H locs ls h hW hS hl
        unfold f_X12_figures_68 at h
        refine lv_bipush (v := (nI 10)) hx hb dX12_figures_68 (by decide) ?_
        refine lv_iload_n hx hb dX12_figures_70 rfl (lv_at hl 1 rfl) ?_
        refine lv_imul hx hb dX12_figures_71 ?_
        refine lv_aload_n hx hb dX12_figures_72 rfl (lv_at hl 0 rfl) ?_
        obtain ⟨t8, h⟩ := zc_at h
        obtain ⟨r10, c9, h⟩ := zd_at h
        refine z_cV hx hb hq hml hown hK hW hS 12 [] [.int (((nI 10) * x1))] rfl (List.mem_singleton.mp t8) (c_X12_here l G st o c9) (zi zm290) (zi zm291) (zi zm292) (zi zm5) (zi zm293) cal_X12_here rfl rfl hl.1 rfl (Nat.le_of_ble_eq_true rfl) (zR_ok (by omega) (by decide)) ⟨(Nat.le_of_ble_eq_true rfl), (Nat.le_of_ble_eq_true rfl)⟩ dX12_figures_73 (fun H locs hW hS => ?_)
        refine W.eq (g2 := F0 m 76 ls [.int r10, .int (((nI 10) * x1))]) rfl ?_
        refine lv_iadd hx hb dX12_figures_76 ?_
        refine lv_bipush (v := (nI 48)) hx hb dX12_figures_77 (by decide) ?_
        refine lv_isub hx hb dX12_figures_79 ?_
        refine lv_topi (fun v11 ev11 => ?_)
        have h := zl_at ev11 h
        refine lv_istore_n (lv' := [(1, .int v11), (0, .ref (G.2.2.2 + o)), (2, .int x2)]) hx hb dX12_figures_80 rfl hl (by decide) rfl (fun ls hl => ?_)
        refine lv_aload_n hx hb dX12_figures_81 rfl (lv_at hl 1 rfl) ?_
        refine lv_dup hx hb dX12_figures_82 rfl ?_
        refine z_gI hx hb hq hown hK hW fs_RX12_42 t8 dX12_figures_83 ?_
        refine lv_iconst (v := (nI 1)) hx hb dX12_figures_86 (by decide) ?_
        refine lv_iadd hx hb dX12_figures_87 ?_
        refine z_pI hx hb hq hown hK hW hS fp_RX12_42 t8 (fun h => by cases h) rfl rfl dX12_figures_88 (fun H locs hW hS => ?_)
        refine lv_iinc (v := (x2 + (nI 1))) (lv' := [(2, .int ((x2 + (nI 1)))), (1, .int v11), (0, .ref (G.2.2.2 + o))]) hx hb dX12_figures_91 hl (k := 2) rfl rfl (by decide) rfl (fun ls hl => ?_)
        refine lv_goto (tgt := 34) hx hb dX12_figures_94 (by decide) ?_
        exact ih34 (zPM st o 5 ((zM st o 5) + (nI 1))) v11 (x2 + (nI 1)) _ _ _ h hW hS (lv_sub hl [2, 1, 0] rfl)
      intro st x1 x2 H locs ls h hW hS hl
      unfold f_X12_figures_34 at h
      refine lv_iload_n hx hb dX12_figures_34 rfl (lv_at hl 2 rfl) ?_
      refine lv_iconst (v := (nI 2)) hx hb dX12_figures_35 (by decide) ?_
      refine z_br (lv_icmp_ge (tgt := 97) hx hb dX12_figures_36 (by decide)) h (fun h => ?_) (fun h => ?_)
      · refine lv_iload_n hx hb dX12_figures_97 rfl (lv_at hl 1 rfl) ?_
        obtain ⟨rfl, rfl⟩ := Prod.mk.inj (Option.some.inj h)
        exact z_ri hx hb hr hlk hW hS (Nat.le_of_ble_eq_true rfl) (Nat.le_of_ble_eq_true rfl) dX12_figures_98
      · refine lv_aload_n hx hb dX12_figures_39 rfl (lv_at hl 0 rfl) ?_
        obtain ⟨t3, h⟩ := zc_at h
        refine z_gI hx hb hq hown hK hW fs_RX12_48 t3 dX12_figures_40 ?_
        refine z_brn (lv_if_ne (tgt := 97) hx hb dX12_figures_43 (by decide)) h (fun h => ?_) (fun h => ?_)
        · refine lv_iload_n hx hb dX12_figures_97 rfl (lv_at hl 1 rfl) ?_
          obtain ⟨rfl, rfl⟩ := Prod.mk.inj (Option.some.inj h)
          exact z_ri hx hb hr hlk hW hS (Nat.le_of_ble_eq_true rfl) (Nat.le_of_ble_eq_true rfl) dX12_figures_98
        · refine lv_aload_n hx hb dX12_figures_46 rfl (lv_at hl 0 rfl) ?_
          obtain ⟨r5, c4, h⟩ := zd_at h
          refine z_cV hx hb hq hml hown hK hW hS 12 [] [] rfl (List.mem_singleton.mp t3) (c_X12_here l G st o c4) (zi zm290) (zi zm291) (zi zm292) (zi zm5) (zi zm293) cal_X12_here rfl rfl hl.1 rfl (Nat.le_of_ble_eq_true rfl) (zR_ok (by omega) (by decide)) ⟨(Nat.le_of_ble_eq_true rfl), (Nat.le_of_ble_eq_true rfl)⟩ dX12_figures_47 (fun H locs hW hS => ?_)
          refine W.eq (g2 := F0 m 50 ls [.int r5]) rfl ?_
          refine lv_bipush (v := (nI 48)) hx hb dX12_figures_50 (by decide) ?_
          refine lv_bipush (v := (nI 57)) hx hb dX12_figures_52 (by decide) ?_
          obtain ⟨r7, c6, h⟩ := zd_at h
          refine z_cS hx hb hq hml hown hK hW hS [.int r5, .int ((nI 48)), .int ((nI 57))] [] (c_X12_in l G st r5 (nI 48) (nI 57) c6) (zi zm90) (zi zm91) (zi zm5) (zi zm92) cal_X12_in rfl hl.1 rfl (Nat.le_of_ble_eq_true rfl) (zR_ok (by omega) (by decide)) ⟨(Nat.le_of_ble_eq_true rfl), (Nat.le_of_ble_eq_true rfl)⟩ dX12_figures_54 (fun H locs hW hS => ?_)
          refine W.eq (g2 := F0 m 57 ls [.int r7]) rfl ?_
          refine z_br (lv_if_eq (tgt := 97) hx hb dX12_figures_57 (by decide)) h (fun h => ?_) (fun h => ?_)
          · refine lv_iload_n hx hb dX12_figures_97 rfl (lv_at hl 1 rfl) ?_
            obtain ⟨rfl, rfl⟩ := Prod.mk.inj (Option.some.inj h)
            exact z_ri hx hb hr hlk hW hS (Nat.le_of_ble_eq_true rfl) (Nat.le_of_ble_eq_true rfl) dX12_figures_98
          · refine lv_iload_n hx hb dX12_figures_60 rfl (lv_at hl 2 rfl) ?_
            refine z_br (lv_if_eq (tgt := 68) hx hb dX12_figures_61 (by decide)) h (fun h => ?_) (fun h => ?_)
            · exact B68 st x1 x2 _ _ _ h hW hS (lv_sub hl [0, 1, 2] rfl)
            · refine lv_iload_n hx hb dX12_figures_64 rfl (lv_at hl 1 rfl) ?_
              refine z_br (lv_if_le (tgt := 97) hx hb dX12_figures_65 (by decide)) h (fun h => ?_) (fun h => ?_)
              · refine lv_iload_n hx hb dX12_figures_97 rfl (lv_at hl 1 rfl) ?_
                obtain ⟨rfl, rfl⟩ := Prod.mk.inj (Option.some.inj h)
                exact z_ri hx hb hr hlk hW hS (Nat.le_of_ble_eq_true rfl) (Nat.le_of_ble_eq_true rfl) dX12_figures_98
              · exact B68 st x1 x2 _ _ _ h hW hS (lv_sub hl [0, 1, 2] rfl)
  have B27 : ∀ (st : zS) (y0 : Int32) (H : Heap) (locs : List Loc) (ls : Array Slot), f_X12_figures_27 N o st y0 = some (st', r) → zWd G st H → va_S (zA G) s.heap H locs → lv_has ls 3 [(0, .ref (G.2.2.2 + o))] → W p l e (zRm 1 0 0) s m args below meth c H locs 0 0 (MQ below (zQ G (some (.int r)) st') args s 0 0 (zA G)) (F0 m 27 ls [.int y0, .ref (G.2.2.2 + o)]) := by
    intro st y0 H locs ls h hW hS hl
    unfold f_X12_figures_27 at h
    obtain ⟨t2, h⟩ := zc_at h
    obtain ⟨t12, h⟩ := zc_at h
    refine z_pI hx hb hq hown hK hW hS fp_RX12_48 t2 (fun h => by cases h) (zB_n t12) (zB_f t12) dX12_figures_27 (fun H locs hW hS => ?_)
    refine lv_iconst (v := (nI 0)) hx hb dX12_figures_30 (by decide) ?_
    refine lv_istore_n (lv' := [(1, .int ((nI 0))), (0, .ref (G.2.2.2 + o))]) hx hb dX12_figures_31 rfl hl (by decide) rfl (fun ls hl => ?_)
    refine lv_iconst (v := (nI 0)) hx hb dX12_figures_32 (by decide) ?_
    refine lv_istore_n (lv' := [(2, .int ((nI 0))), (1, .int ((nI 0))), (0, .ref (G.2.2.2 + o))]) hx hb dX12_figures_33 rfl hl (by decide) rfl (fun ls hl => ?_)
    exact B34 N (zPM st o 7 y0) (nI 0) (nI 0) _ _ _ h hW hS (lv_sub hl [2, 1, 0] rfl)
  have B22 : ∀ (st : zS) (H : Heap) (locs : List Loc) (ls : Array Slot), f_X12_figures_22 N o st = some (st', r) → zWd G st H → va_S (zA G) s.heap H locs → lv_has ls 3 [(0, .ref (G.2.2.2 + o))] → W p l e (zRm 1 0 0) s m args below meth c H locs 0 0 (MQ below (zQ G (some (.int r)) st') args s 0 0 (zA G)) (F0 m 22 ls [.ref (G.2.2.2 + o)]) := by
    intro st H locs ls h hW hS hl
    unfold f_X12_figures_22 at h
    refine lv_iconst (v := (nI 1)) hx hb dX12_figures_22 (by decide) ?_
    refine lv_goto (tgt := 27) hx hb dX12_figures_23 (by decide) ?_
    exact B27 st (nI 1) _ _ _ h hW hS (lv_sub hl [0] rfl)
  refine lv_aload_n hx hb dX12_figures_0 rfl (lv_at hl 0 rfl) ?_
  refine lv_aload_n hx hb dX12_figures_1 rfl (lv_at hl 0 rfl) ?_
  obtain ⟨t1, h⟩ := zc_at h
  refine z_gI hx hb hq hown hK hW fs_RX12_48 t1 dX12_figures_2 ?_
  refine z_brn (lv_if_ne (tgt := 22) hx hb dX12_figures_5 (by decide)) h (fun h => ?_) (fun h => ?_)
  · exact B22 st _ _ _ h hW hS (lv_sub hl [0] rfl)
  · refine lv_aload_n hx hb dX12_figures_8 rfl (lv_at hl 0 rfl) ?_
    obtain ⟨r14, c13, h⟩ := zd_at h
    refine z_cV hx hb hq hml hown hK hW hS 12 [] [.ref (G.2.2.2 + o)] rfl (List.mem_singleton.mp t1) (c_X12_here l G st o c13) (zi zm290) (zi zm291) (zi zm292) (zi zm5) (zi zm293) cal_X12_here rfl rfl hl.1 rfl (Nat.le_of_ble_eq_true rfl) (zR_ok (by omega) (by decide)) ⟨(Nat.le_of_ble_eq_true rfl), (Nat.le_of_ble_eq_true rfl)⟩ dX12_figures_9 (fun H locs hW hS => ?_)
    refine W.eq (g2 := F0 m 12 ls [.int r14, .ref (G.2.2.2 + o)]) rfl ?_
    refine lv_bipush (v := (nI 48)) hx hb dX12_figures_12 (by decide) ?_
    refine lv_bipush (v := (nI 57)) hx hb dX12_figures_14 (by decide) ?_
    obtain ⟨r16, c15, h⟩ := zd_at h
    refine z_cS hx hb hq hml hown hK hW hS [.int r14, .int ((nI 48)), .int ((nI 57))] [.ref (G.2.2.2 + o)] (c_X12_in l G st r14 (nI 48) (nI 57) c15) (zi zm90) (zi zm91) (zi zm5) (zi zm92) cal_X12_in rfl hl.1 rfl (Nat.le_of_ble_eq_true rfl) (zR_ok (by omega) (by decide)) ⟨(Nat.le_of_ble_eq_true rfl), (Nat.le_of_ble_eq_true rfl)⟩ dX12_figures_16 (fun H locs hW hS => ?_)
    refine W.eq (g2 := F0 m 19 ls [.int r16, .ref (G.2.2.2 + o)]) rfl ?_
    refine z_brn (lv_if_ne (tgt := 26) hx hb dX12_figures_19 (by decide)) h (fun h => ?_) (fun h => ?_)
    · refine lv_iconst (v := (nI 0)) hx hb dX12_figures_26 (by decide) ?_
      exact B27 st (nI 0) _ _ _ h hW hS (lv_sub hl [0] rfl)
    · exact B22 st _ _ _ h hW hS (lv_sub hl [0] rfl)
def f_X12_among_2 (N : Nat) (o : Nat) (a1 : Nat)  : Nat → zS → Int32 → Option (zS × Int32)
  | 0, _, _ => none
  | n2 + 1, st, x2 => (if a1 < zsN then (Option.bind (f_J0_length_8abf5 a1) (fun r3 => (if r3 ≤ x2 then (some (st, (-1 : Int32))) else (if zTg st o ∈ [22] then (Option.bind (f_X12_here st o) (fun r6 => (Option.bind (f_J0_charAt_5068e a1 x2) (fun r8 => (if r6 = r8 then (some ((zPM st o 5 ((zM st o 5) + (nI 1))), x2)) else ((f_X12_among_2 N o a1 n2) st (x2 + (nI 1)))))))) else none)))) else none)
def f_X12_among (N : Nat) (st : zS) (o : Nat) (a1 : Nat) : Option (zS × Int32) := (f_X12_among_2 N o a1 N st (nI 0))
set_option maxHeartbeats 1000000 in
set_option maxRecDepth 100000 in
theorem c_X12_among (l : Launch) (G : zG) (N : Nat) (st : zS) (o : Nat) (a1 : Nat) {st' : zS} {r : Int32} (h : f_X12_among N st o a1 = some (st', r)) : zMet l G yX12_among cX12_among 3 (some .int) 5 0 0 [.ref (G.2.2.2 + o), .ref (G.2.2.1.1 (a1))] st (some (.int r)) st' := by
  refine zMet_of (by decide +kernel) ?_
  intro p e s m args below meth c X
  obtain ⟨hx, hb, hr, hml, hown, hq, hlk, hK, -, hin, hW, hS⟩ := X
  have hown : s.vm.findClass RX12 = some m.cls := hown
  refine z_ent (by exact Nat.le_of_ble_eq_true rfl) (fun ls hl => ?_)
  have hl : lv_has ls 3 [(0, .ref (G.2.2.2 + o)), (1, .ref (G.2.2.1.1 (a1)))] := hl
  unfold f_X12_among at h
  have B2 : ∀ (n2 : Nat) (st : zS) (x2 : Int32) (H : Heap) (locs : List Loc) (ls : Array Slot), f_X12_among_2 N o a1 n2 st x2 = some (st', r) → zWd G st H → va_S (zA G) s.heap H locs → lv_has ls 3 [(0, .ref (G.2.2.2 + o)), (1, .ref (G.2.2.1.1 (a1))), (2, .int x2)] → W p l e (zRm 5 0 0) s m args below meth c H locs 0 0 (MQ below (zQ G (some (.int r)) st') args s 0 0 (zA G)) (F0 m 2 ls []) := by
    intro n2
    induction n2 with
    | zero =>
      intro st x2 H locs ls h
      unfold f_X12_among_2 at h
      cases h
    | succ n2 ih2 =>
      intro st x2 H locs ls h hW hS hl
      unfold f_X12_among_2 at h
      refine lv_iload_n hx hb dX12_among_2 rfl (lv_at hl 2 rfl) ?_
      refine lv_aload_n hx hb dX12_among_3 rfl (lv_at hl 1 rfl) ?_
      obtain ⟨t1, h⟩ := zc_at h
      obtain ⟨r3, c2, h⟩ := zd_at h
      refine z_cStr hx hb hq hml hown hK hW hS t1 [] [.int x2] (c_J0_length_8abf5 l G st a1 c2) (zi zm302) (zi zm125) (zi zm126) (zi zm127) (zi zm128) cal_J0_length_8abf5 rfl rfl hl.1 rfl (Nat.le_of_ble_eq_true rfl) (zR_ok (by omega) (by decide)) ⟨(Nat.le_of_ble_eq_true rfl), (Nat.le_of_ble_eq_true rfl)⟩ dX12_among_4 (fun H locs hW hS => ?_)
      refine W.eq (g2 := F0 m 7 ls [.int r3, .int x2]) rfl ?_
      refine z_br (lv_icmp_ge (tgt := 40) hx hb dX12_among_7 (by decide)) h (fun h => ?_) (fun h => ?_)
      · refine lv_iconst (v := (-1)) hx hb dX12_among_40 (by decide) ?_
        obtain ⟨rfl, rfl⟩ := Prod.mk.inj (Option.some.inj h)
        exact z_ri hx hb hr hlk hW hS (Nat.le_of_ble_eq_true rfl) (Nat.le_of_ble_eq_true rfl) dX12_among_41
      · refine lv_aload_n hx hb dX12_among_10 rfl (lv_at hl 0 rfl) ?_
        obtain ⟨t4, h⟩ := zc_at h
        obtain ⟨r6, c5, h⟩ := zd_at h
        refine z_cV hx hb hq hml hown hK hW hS 12 [] [] rfl (List.mem_singleton.mp t4) (c_X12_here l G st o c5) (zi zm290) (zi zm291) (zi zm292) (zi zm5) (zi zm293) cal_X12_here rfl rfl hl.1 rfl (Nat.le_of_ble_eq_true rfl) (zR_ok (by omega) (by decide)) ⟨(Nat.le_of_ble_eq_true rfl), (Nat.le_of_ble_eq_true rfl)⟩ dX12_among_11 (fun H locs hW hS => ?_)
        refine W.eq (g2 := F0 m 14 ls [.int r6]) rfl ?_
        refine lv_aload_n hx hb dX12_among_14 rfl (lv_at hl 1 rfl) ?_
        refine lv_iload_n hx hb dX12_among_15 rfl (lv_at hl 2 rfl) ?_
        obtain ⟨r8, c7, h⟩ := zd_at h
        refine z_cStr hx hb hq hml hown hK hW hS t1 [.int x2] [.int r6] (c_J0_charAt_5068e l G st a1 x2 c7) (zi zm303) (zi zm137) (zi zm138) (zi zm127) (zi zm139) cal_J0_charAt_5068e rfl rfl hl.1 rfl (Nat.le_of_ble_eq_true rfl) (zR_ok (by omega) (by decide)) ⟨(Nat.le_of_ble_eq_true rfl), (Nat.le_of_ble_eq_true rfl)⟩ dX12_among_16 (fun H locs hW hS => ?_)
        refine W.eq (g2 := F0 m 19 ls [.int r8, .int r6]) rfl ?_
        refine z_brn (lv_icmp_ne (tgt := 34) hx hb dX12_among_19 (by decide)) h (fun h => ?_) (fun h => ?_)
        · refine lv_iinc (v := (x2 + (nI 1))) (lv' := [(2, .int ((x2 + (nI 1)))), (0, .ref (G.2.2.2 + o)), (1, .ref (G.2.2.1.1 (a1)))]) hx hb dX12_among_34 hl (k := 2) rfl rfl (by decide) rfl (fun ls hl => ?_)
          refine lv_goto (tgt := 2) hx hb dX12_among_37 (by decide) ?_
          exact ih2 st (x2 + (nI 1)) _ _ _ h hW hS (lv_sub hl [1, 2, 0] rfl)
        · refine lv_aload_n hx hb dX12_among_22 rfl (lv_at hl 0 rfl) ?_
          refine lv_dup hx hb dX12_among_23 rfl ?_
          refine z_gI hx hb hq hown hK hW fs_RX12_42 t4 dX12_among_24 ?_
          refine lv_iconst (v := (nI 1)) hx hb dX12_among_27 (by decide) ?_
          refine lv_iadd hx hb dX12_among_28 ?_
          refine z_pI hx hb hq hown hK hW hS fp_RX12_42 t4 (fun h => by cases h) rfl rfl dX12_among_29 (fun H locs hW hS => ?_)
          refine lv_iload_n hx hb dX12_among_32 rfl (lv_at hl 2 rfl) ?_
          obtain ⟨rfl, rfl⟩ := Prod.mk.inj (Option.some.inj h)
          exact z_ri hx hb hr hlk hW hS (Nat.le_of_ble_eq_true rfl) (Nat.le_of_ble_eq_true rfl) dX12_among_33
  refine lv_iconst (v := (nI 0)) hx hb dX12_among_0 (by decide) ?_
  refine lv_istore_n (lv' := [(2, .int ((nI 0))), (0, .ref (G.2.2.2 + o)), (1, .ref (G.2.2.1.1 (a1)))]) hx hb dX12_among_1 rfl hl (by decide) rfl (fun ls hl => ?_)
  exact B2 N st (nI 0) _ _ _ h hW hS (lv_sub hl [1, 2, 0] rfl)
def f_X12_emits (st : zS) (o : Nat) (a1 : Int32) : Option zS := (if zTg st o ∈ [22] then (if (zM st o 7) = 0 then (Option.bind (zR st o 1) (fun b2 => (if zTg st b2 ∈ [1] then (if zin ((nI 243) + (zM st o 4)) (zLn st b2) then (if zin (((nI 248) + ((nI 140) * (zM st o 4))) + (zM st b2 (((nI 243) + (zM st o 4))).toNatClampNeg)) (zLn st b2) then (if zin ((nI 243) + (zM (zPM st b2 ((((nI 248) + ((nI 140) * (zM st o 4))) + (zM st b2 (((nI 243) + (zM st o 4))).toNatClampNeg))).toNatClampNeg a1) o 4)) (zLn (zPM st b2 ((((nI 248) + ((nI 140) * (zM st o 4))) + (zM st b2 (((nI 243) + (zM st o 4))).toNatClampNeg))).toNatClampNeg a1) b2) then (if zin ((nI 243) + (zM (zPM st b2 ((((nI 248) + ((nI 140) * (zM st o 4))) + (zM st b2 (((nI 243) + (zM st o 4))).toNatClampNeg))).toNatClampNeg a1) o 4)) (zLn (zPM st b2 ((((nI 248) + ((nI 140) * (zM st o 4))) + (zM st b2 (((nI 243) + (zM st o 4))).toNatClampNeg))).toNatClampNeg a1) b2) then (some (zPM (zPM st b2 ((((nI 248) + ((nI 140) * (zM st o 4))) + (zM st b2 (((nI 243) + (zM st o 4))).toNatClampNeg))).toNatClampNeg a1) b2 (((nI 243) + (zM (zPM st b2 ((((nI 248) + ((nI 140) * (zM st o 4))) + (zM st b2 (((nI 243) + (zM st o 4))).toNatClampNeg))).toNatClampNeg a1) o 4))).toNatClampNeg ((zM (zPM st b2 ((((nI 248) + ((nI 140) * (zM st o 4))) + (zM st b2 (((nI 243) + (zM st o 4))).toNatClampNeg))).toNatClampNeg a1) b2 (((nI 243) + (zM (zPM st b2 ((((nI 248) + ((nI 140) * (zM st o 4))) + (zM st b2 (((nI 243) + (zM st o 4))).toNatClampNeg))).toNatClampNeg a1) o 4))).toNatClampNeg) + (nI 1)))) else none) else none) else none) else none) else none))) else (some st)) else none)
set_option maxHeartbeats 1000000 in
set_option maxRecDepth 100000 in
theorem c_X12_emits (l : Launch) (G : zG) (st : zS) (o : Nat) (a1 : Int32) {st' : zS} (h : f_X12_emits st o a1 = some st') : zMet l G yX12_emits cX12_emits 2 none 0 0 0 [.ref (G.2.2.2 + o), .int a1] st none st' := by
  refine zMet_of (by decide +kernel) ?_
  intro p e s m args below meth c X
  obtain ⟨hx, hb, hr, hml, hown, hq, hlk, hK, -, hin, hW, hS⟩ := X
  have hown : s.vm.findClass RX12 = some m.cls := hown
  refine z_ent (by exact Nat.le_of_ble_eq_true rfl) (fun ls hl => ?_)
  have hl : lv_has ls 2 [(0, .ref (G.2.2.2 + o)), (1, .int a1)] := hl
  unfold f_X12_emits at h
  refine lv_aload_n hx hb dX12_emits_0 rfl (lv_at hl 0 rfl) ?_
  obtain ⟨t1, h⟩ := zc_at h
  refine z_gI hx hb hq hown hK hW fs_RX12_48 t1 dX12_emits_1 ?_
  refine z_brn (lv_if_ne (tgt := 56) hx hb dX12_emits_4 (by decide)) h (fun h => ?_) (fun h => ?_)
  · obtain rfl := Option.some.inj h
    exact z_rv hx hb hr hlk hW hS (Nat.le_of_ble_eq_true rfl) (Nat.le_of_ble_eq_true rfl) dX12_emits_56
  · refine lv_aload_n hx hb dX12_emits_7 rfl (lv_at hl 0 rfl) ?_
    obtain ⟨b2, hb2, h⟩ := zd_at h
    refine z_gR hx hb hq hown hK hW fs_RX12_9 t1 hb2 dX12_emits_8 ?_
    refine lv_sipush (v := (nI 248)) hx hb dX12_emits_11 (by decide) ?_
    refine lv_sipush (v := (nI 140)) hx hb dX12_emits_14 (by decide) ?_
    refine lv_aload_n hx hb dX12_emits_17 rfl (lv_at hl 0 rfl) ?_
    refine z_gI hx hb hq hown hK hW fs_RX12_69 t1 dX12_emits_18 ?_
    refine lv_imul hx hb dX12_emits_21 ?_
    refine lv_iadd hx hb dX12_emits_22 ?_
    refine lv_aload_n hx hb dX12_emits_23 rfl (lv_at hl 0 rfl) ?_
    refine z_gR hx hb hq hown hK hW fs_RX12_9 t1 hb2 dX12_emits_24 ?_
    refine lv_sipush (v := (nI 243)) hx hb dX12_emits_27 (by decide) ?_
    refine lv_aload_n hx hb dX12_emits_30 rfl (lv_at hl 0 rfl) ?_
    refine z_gI hx hb hq hown hK hW fs_RX12_69 t1 dX12_emits_31 ?_
    refine lv_iadd hx hb dX12_emits_34 ?_
    obtain ⟨t3, h⟩ := zc_at h
    obtain ⟨t4, h⟩ := zc_at h
    refine z_alI hx hb hK hW (List.mem_singleton.mp t3) t4 dX12_emits_35 ?_
    refine lv_iadd hx hb dX12_emits_36 ?_
    refine lv_iload_n hx hb dX12_emits_37 rfl (lv_at hl 1 rfl) ?_
    obtain ⟨t5, h⟩ := zc_at h
    refine z_asI hx hb hK hW hS (List.mem_singleton.mp t3) t5 dX12_emits_38 (fun H locs hW hS => ?_)
    refine lv_aload_n hx hb dX12_emits_39 rfl (lv_at hl 0 rfl) ?_
    refine z_gR hx hb hq hown hK hW fs_RX12_9 t1 hb2 dX12_emits_40 ?_
    refine lv_sipush (v := (nI 243)) hx hb dX12_emits_43 (by decide) ?_
    refine lv_aload_n hx hb dX12_emits_46 rfl (lv_at hl 0 rfl) ?_
    refine z_gI hx hb hq hown hK hW fs_RX12_69 t1 dX12_emits_47 ?_
    refine lv_iadd hx hb dX12_emits_50 ?_
    refine lv_dup2_11 hx hb dX12_emits_51 rfl rfl ?_
    obtain ⟨t6, h⟩ := zc_at h
    refine z_alI hx hb hK hW (List.mem_singleton.mp t3) t6 dX12_emits_52 ?_
    refine lv_iconst (v := (nI 1)) hx hb dX12_emits_53 (by decide) ?_
    refine lv_iadd hx hb dX12_emits_54 ?_
    obtain ⟨t7, h⟩ := zc_at h
    refine z_asI hx hb hK hW hS (List.mem_singleton.mp t3) t7 dX12_emits_55 (fun H locs hW hS => ?_)
    obtain rfl := Option.some.inj h
    exact z_rv hx hb hr hlk hW hS (Nat.le_of_ble_eq_true rfl) (Nat.le_of_ble_eq_true rfl) dX12_emits_56
def f_X12_factor_69 (rec_ : Nat → zS → Nat → Option zS) (N : Nat) (o : Nat)  (st : zS) (x1 : Int32) (y0 : Int32) (y1 : Int32) : Option zS := (if zTg st o ∈ [22] then (if x1 = (nI 33) then (Option.bind (rec_ 2 (zPM st o 5 (y1 + y0)) o) (fun st14 => (if zTg st14 o ∈ [22] then (Option.bind (f_X12_emits st14 o (-1 : Int32)) (fun st17 => (if zTg st17 o ∈ [22] then (some (zPM st17 o 8 ((zM st17 o 8) - (nI 1)))) else none))) else none))) else (Option.bind (rec_ 0 (zPM st o 5 (y1 + y0)) o) (fun st8 => (if zTg st8 o ∈ [22] then (Option.bind (f_X12_must st8 o (nI 41)) (fun st11 => (if zTg st11 o ∈ [22] then (some (zPM st11 o 8 ((zM st11 o 8) - (nI 1)))) else none))) else none)))) else none)
def f_X12_factor_39 (rec_ : Nat → zS → Nat → Option zS) (N : Nat) (o : Nat)  (st : zS) (x1 : Int32) (y0 : Int32) : Option zS := (if zTg st o ∈ [22] then (if zB y0 then (if (zM (zPM (zPM st o 7 y0) o 8 ((zM (zPM st o 7 y0) o 8) + (nI 1))) o 7) = 0 then (f_X12_factor_69 rec_ N o (zPM (zPM st o 7 y0) o 8 ((zM (zPM st o 7 y0) o 8) + (nI 1))) x1 (nI 1) (zM (zPM (zPM st o 7 y0) o 8 ((zM (zPM st o 7 y0) o 8) + (nI 1))) o 5)) else (f_X12_factor_69 rec_ N o (zPM (zPM st o 7 y0) o 8 ((zM (zPM st o 7 y0) o 8) + (nI 1))) x1 (nI 0) (zM (zPM (zPM st o 7 y0) o 8 ((zM (zPM st o 7 y0) o 8) + (nI 1))) o 5))) else none) else none)
def f_X12_factor_25 (rec_ : Nat → zS → Nat → Option zS) (N : Nat) (o : Nat)  (st : zS) (x1 : Int32) : Option zS := (if zTg st o ∈ [22] then (if (zM st o 8) = (nI 5) then (f_X12_factor_39 rec_ N o st x1 (nI 1)) else (f_X12_factor_39 rec_ N o st x1 (nI 0))) else none)
def f_X12_factor_169 (rec_ : Nat → zS → Nat → Option zS) (N : Nat) (o : Nat)  (st : zS) (x2 : Int32) (x3 : Int32) (y0 : Int32) : Option zS := (if zTg st o ∈ [22] then (if zB y0 then (zb (f_X12_figures N (zPM st o 7 y0) o) (fun st30 r31 => (if zTg st30 o ∈ [22] then (Option.bind (f_X12_emits st30 o ((x2 + ((nI 8) * x3)) + ((nI 32) * r31))) (fun st34 => (some st34))) else none))) else none) else none)
def f_X12_factor_164 (rec_ : Nat → zS → Nat → Option zS) (N : Nat) (o : Nat)  (st : zS) (x2 : Int32) (x3 : Int32) : Option zS := (f_X12_factor_169 rec_ N o st x2 x3 (nI 1))
def f_X12_factor_150 (rec_ : Nat → zS → Nat → Option zS) (N : Nat) (o : Nat)  (st : zS) (x2 : Int32) (y0 : Int32) : Option zS := (if zTg st o ∈ [22] then (if (zM st o 7) = 0 then (if y0 = (-1 : Int32) then (f_X12_factor_164 rec_ N o st x2 y0) else (f_X12_factor_169 rec_ N o st x2 y0 (nI 0))) else (f_X12_factor_164 rec_ N o st x2 y0)) else none)
def f_X12_factor_130 (rec_ : Nat → zS → Nat → Option zS) (N : Nat) (o : Nat)  (st : zS) (x2 : Int32) (y0 : Int32) : Option zS := (if zTg st o ∈ [22] then (if zB y0 then (if (zM (zPM st o 7 y0) o 7) = 0 then (zb (f_X12_among N (zPM st o 7 y0) o 11) (fun st25 r26 => (f_X12_factor_150 rec_ N o st25 x2 r26))) else (f_X12_factor_150 rec_ N o (zPM st o 7 y0) x2 (nI 0))) else none) else none)
def f_X12_factor (rec_ : Nat → zS → Nat → Option zS) (N : Nat) (st : zS) (o : Nat) : Option zS := (if zTg st o ∈ [22] then (if (zM st o 7) = 0 then (Option.bind (f_X12_here st o) (fun r3 => (if r3 = (nI 33) then (f_X12_factor_25 rec_ N o st r3) else (if r3 = (nI 40) then (f_X12_factor_25 rec_ N o st r3) else (zb (f_X12_among N st o 10) (fun st21 r22 => (if r22 = (-1 : Int32) then (f_X12_factor_130 rec_ N o st21 r22 (nI 1)) else (f_X12_factor_130 rec_ N o st21 r22 (nI 0))))))))) else (some st)) else none)
set_option maxHeartbeats 1000000 in
set_option maxRecDepth 100000 in
theorem c_X12_factor (l : Launch) (G : zG) (D dB : Nat) (hdB : 6 ≤ dB) (rec_ : Nat → zS → Nat → Option zS) (hr0 : ∀ (st : zS) (o : Nat) (st' : zS), rec_ 0 st o  = some st' → zMet l G yX12_some cX12_some 1 none (dB + D) 0 0 [.ref (G.2.2.2 + o)] st none st') (hr1 : ∀ (st : zS) (o : Nat) (st' : zS), rec_ 1 st o  = some st' → zMet l G yX12_every cX12_every 1 none (dB + D) 0 0 [.ref (G.2.2.2 + o)] st none st') (hr2 : ∀ (st : zS) (o : Nat) (st' : zS), rec_ 2 st o  = some st' → zMet l G yX12_factor cX12_factor 5 none (dB + D) 0 0 [.ref (G.2.2.2 + o)] st none st') (N : Nat) (st : zS) (o : Nat) {st' : zS} (h : f_X12_factor rec_ N st o = some st') : zMet l G yX12_factor cX12_factor 5 none (dB + (D + 1)) 0 0 [.ref (G.2.2.2 + o)] st none st' := by
  refine zMet_of (by decide +kernel) ?_
  intro p e s m args below meth c X
  obtain ⟨hx, hb, hr, hml, hown, hq, hlk, hK, -, hin, hW, hS⟩ := X
  have hown : s.vm.findClass RX12 = some m.cls := hown
  refine z_ent (by exact Nat.le_of_ble_eq_true rfl) (fun ls hl => ?_)
  have hl : lv_has ls 5 [(0, .ref (G.2.2.2 + o))] := hl
  unfold f_X12_factor at h
  have B69 : ∀ (st : zS) (x1 : Int32) (y0 : Int32) (y1 : Int32) (H : Heap) (locs : List Loc) (ls : Array Slot), f_X12_factor_69 rec_ N o st x1 y0 y1 = some st' → zWd G st H → va_S (zA G) s.heap H locs → lv_has ls 5 [(0, .ref (G.2.2.2 + o)), (1, .int x1)] → W p l e (zRm (dB + (D + 1)) 0 0) s m args below meth c H locs 0 0 (MQ below (zQ G none st') args s 0 0 (zA G)) (F0 m 69 ls [.int y0, .int y1, .ref (G.2.2.2 + o)]) := by
    intro st x1 y0 y1 H locs ls h hW hS hl
    unfold f_X12_factor_69 at h
    refine lv_iadd hx hb dX12_factor_69 ?_
    obtain ⟨t6, h⟩ := zc_at h
    refine z_pI hx hb hq hown hK hW hS fp_RX12_42 t6 (fun h => by cases h) rfl rfl dX12_factor_70 (fun H locs hW hS => ?_)
    refine lv_iload_n hx hb dX12_factor_73 rfl (lv_at hl 1 rfl) ?_
    refine lv_bipush (v := (nI 33)) hx hb dX12_factor_74 (by decide) ?_
    refine z_brn (lv_icmp_ne (tgt := 91) hx hb dX12_factor_76 (by decide)) h (fun h => ?_) (fun h => ?_)
    · refine lv_aload_n hx hb dX12_factor_91 rfl (lv_at hl 0 rfl) ?_
      obtain ⟨st8, c7, h⟩ := zd_at h
      refine z_cV hx hb hq hml hown hK hW hS 12 [] [] rfl (List.mem_singleton.mp t6) (hr0 (zPM st o 5 (y1 + y0)) o _ c7) (zi zm312) (zi zm313) (zi zm314) (zi zm5) (zi zm315) cal_X12_some rfl rfl hl.1 rfl (Nat.le_of_ble_eq_true rfl) (zR_ok (by omega) (by decide)) ⟨(Nat.le_of_ble_eq_true rfl), (Nat.le_of_ble_eq_true rfl)⟩ dX12_factor_92 (fun H locs hW hS => ?_)
      refine W.eq (g2 := F0 m 95 ls []) rfl ?_
      refine lv_aload_n hx hb dX12_factor_95 rfl (lv_at hl 0 rfl) ?_
      refine lv_bipush (v := (nI 41)) hx hb dX12_factor_96 (by decide) ?_
      obtain ⟨t9, h⟩ := zc_at h
      obtain ⟨st11, c10, h⟩ := zd_at h
      refine z_cV hx hb hq hml hown hK hW hS 12 [.int ((nI 41))] [] rfl (List.mem_singleton.mp t9) (c_X12_must l G st8 o (nI 41) c10) (zi zm304) (zi zm305) (zi zm306) (zi zm5) (zi zm307) cal_X12_must rfl rfl hl.1 rfl (Nat.le_of_ble_eq_true rfl) (zR_ok (by omega) (by decide)) ⟨(Nat.le_of_ble_eq_true rfl), (Nat.le_of_ble_eq_true rfl)⟩ dX12_factor_98 (fun H locs hW hS => ?_)
      refine W.eq (g2 := F0 m 101 ls []) rfl ?_
      refine lv_aload_n hx hb dX12_factor_101 rfl (lv_at hl 0 rfl) ?_
      refine lv_dup hx hb dX12_factor_102 rfl ?_
      obtain ⟨t12, h⟩ := zc_at h
      refine z_gI hx hb hq hown hK hW fs_RX12_72 t12 dX12_factor_103 ?_
      refine lv_iconst (v := (nI 1)) hx hb dX12_factor_106 (by decide) ?_
      refine lv_isub hx hb dX12_factor_107 ?_
      refine z_pI hx hb hq hown hK hW hS fp_RX12_72 t12 (fun h => by cases h) rfl rfl dX12_factor_108 (fun H locs hW hS => ?_)
      obtain rfl := Option.some.inj h
      exact z_rv hx hb hr hlk hW hS (Nat.le_of_ble_eq_true rfl) (Nat.le_of_ble_eq_true rfl) dX12_factor_111
    · refine lv_aload_n hx hb dX12_factor_79 rfl (lv_at hl 0 rfl) ?_
      obtain ⟨st14, c13, h⟩ := zd_at h
      refine z_cV hx hb hq hml hown hK hW hS 12 [] [] rfl (List.mem_singleton.mp t6) (hr2 (zPM st o 5 (y1 + y0)) o _ c13) (zi zm324) (zi zm325) (zi zm326) (zi zm5) (zi zm327) cal_X12_factor rfl rfl hl.1 rfl (Nat.le_of_ble_eq_true rfl) (zR_ok (by omega) (by decide)) ⟨(Nat.le_of_ble_eq_true rfl), (Nat.le_of_ble_eq_true rfl)⟩ dX12_factor_80 (fun H locs hW hS => ?_)
      refine W.eq (g2 := F0 m 83 ls []) rfl ?_
      refine lv_aload_n hx hb dX12_factor_83 rfl (lv_at hl 0 rfl) ?_
      refine lv_iconst (v := (-1)) hx hb dX12_factor_84 (by decide) ?_
      obtain ⟨t15, h⟩ := zc_at h
      obtain ⟨st17, c16, h⟩ := zd_at h
      refine z_cV hx hb hq hml hown hK hW hS 12 [.int ((-1))] [] rfl (List.mem_singleton.mp t15) (c_X12_emits l G st14 o (-1 : Int32) c16) (zi zm319) (zi zm320) (zi zm321) (zi zm5) (zi zm322) cal_X12_emits rfl rfl hl.1 rfl (Nat.le_of_ble_eq_true rfl) (zR_ok (by omega) (by decide)) ⟨(Nat.le_of_ble_eq_true rfl), (Nat.le_of_ble_eq_true rfl)⟩ dX12_factor_85 (fun H locs hW hS => ?_)
      refine W.eq (g2 := F0 m 88 ls []) rfl ?_
      refine lv_goto (tgt := 101) hx hb dX12_factor_88 (by decide) ?_
      refine lv_aload_n hx hb dX12_factor_101 rfl (lv_at hl 0 rfl) ?_
      refine lv_dup hx hb dX12_factor_102 rfl ?_
      obtain ⟨t18, h⟩ := zc_at h
      refine z_gI hx hb hq hown hK hW fs_RX12_72 t18 dX12_factor_103 ?_
      refine lv_iconst (v := (nI 1)) hx hb dX12_factor_106 (by decide) ?_
      refine lv_isub hx hb dX12_factor_107 ?_
      refine z_pI hx hb hq hown hK hW hS fp_RX12_72 t18 (fun h => by cases h) rfl rfl dX12_factor_108 (fun H locs hW hS => ?_)
      obtain rfl := Option.some.inj h
      exact z_rv hx hb hr hlk hW hS (Nat.le_of_ble_eq_true rfl) (Nat.le_of_ble_eq_true rfl) dX12_factor_111
  have B39 : ∀ (st : zS) (x1 : Int32) (y0 : Int32) (H : Heap) (locs : List Loc) (ls : Array Slot), f_X12_factor_39 rec_ N o st x1 y0 = some st' → zWd G st H → va_S (zA G) s.heap H locs → lv_has ls 5 [(0, .ref (G.2.2.2 + o)), (1, .int x1)] → W p l e (zRm (dB + (D + 1)) 0 0) s m args below meth c H locs 0 0 (MQ below (zQ G none st') args s 0 0 (zA G)) (F0 m 39 ls [.int y0, .ref (G.2.2.2 + o)]) := by
    intro st x1 y0 H locs ls h hW hS hl
    unfold f_X12_factor_39 at h
    obtain ⟨t5, h⟩ := zc_at h
    obtain ⟨t19, h⟩ := zc_at h
    refine z_pI hx hb hq hown hK hW hS fp_RX12_48 t5 (fun h => by cases h) (zB_n t19) (zB_f t19) dX12_factor_39 (fun H locs hW hS => ?_)
    refine lv_aload_n hx hb dX12_factor_42 rfl (lv_at hl 0 rfl) ?_
    refine lv_dup hx hb dX12_factor_43 rfl ?_
    refine z_gI hx hb hq hown hK hW fs_RX12_72 t5 dX12_factor_44 ?_
    refine lv_iconst (v := (nI 1)) hx hb dX12_factor_47 (by decide) ?_
    refine lv_iadd hx hb dX12_factor_48 ?_
    refine z_pI hx hb hq hown hK hW hS fp_RX12_72 t5 (fun h => by cases h) rfl rfl dX12_factor_49 (fun H locs hW hS => ?_)
    refine lv_aload_n hx hb dX12_factor_52 rfl (lv_at hl 0 rfl) ?_
    refine lv_dup hx hb dX12_factor_53 rfl ?_
    refine z_gI hx hb hq hown hK hW fs_RX12_42 t5 dX12_factor_54 ?_
    refine lv_aload_n hx hb dX12_factor_57 rfl (lv_at hl 0 rfl) ?_
    refine z_gI hx hb hq hown hK hW fs_RX12_48 t5 dX12_factor_58 ?_
    refine z_br (lv_if_eq (tgt := 68) hx hb dX12_factor_61 (by decide)) h (fun h => ?_) (fun h => ?_)
    · refine lv_iconst (v := (nI 1)) hx hb dX12_factor_68 (by decide) ?_
      exact B69 (zPM (zPM st o 7 y0) o 8 ((zM (zPM st o 7 y0) o 8) + (nI 1))) x1 (nI 1) (zM (zPM (zPM st o 7 y0) o 8 ((zM (zPM st o 7 y0) o 8) + (nI 1))) o 5) _ _ _ h hW hS (lv_sub hl [0, 1] rfl)
    · refine lv_iconst (v := (nI 0)) hx hb dX12_factor_64 (by decide) ?_
      refine lv_goto (tgt := 69) hx hb dX12_factor_65 (by decide) ?_
      exact B69 (zPM (zPM st o 7 y0) o 8 ((zM (zPM st o 7 y0) o 8) + (nI 1))) x1 (nI 0) (zM (zPM (zPM st o 7 y0) o 8 ((zM (zPM st o 7 y0) o 8) + (nI 1))) o 5) _ _ _ h hW hS (lv_sub hl [0, 1] rfl)
  have B25 : ∀ (st : zS) (x1 : Int32) (H : Heap) (locs : List Loc) (ls : Array Slot), f_X12_factor_25 rec_ N o st x1 = some st' → zWd G st H → va_S (zA G) s.heap H locs → lv_has ls 5 [(0, .ref (G.2.2.2 + o)), (1, .int x1)] → W p l e (zRm (dB + (D + 1)) 0 0) s m args below meth c H locs 0 0 (MQ below (zQ G none st') args s 0 0 (zA G)) (F0 m 25 ls []) := by
    intro st x1 H locs ls h hW hS hl
    unfold f_X12_factor_25 at h
    refine lv_aload_n hx hb dX12_factor_25 rfl (lv_at hl 0 rfl) ?_
    refine lv_aload_n hx hb dX12_factor_26 rfl (lv_at hl 0 rfl) ?_
    obtain ⟨t4, h⟩ := zc_at h
    refine z_gI hx hb hq hown hK hW fs_RX12_72 t4 dX12_factor_27 ?_
    refine lv_iconst (v := (nI 5)) hx hb dX12_factor_30 (by decide) ?_
    refine z_brn (lv_icmp_ne (tgt := 38) hx hb dX12_factor_31 (by decide)) h (fun h => ?_) (fun h => ?_)
    · refine lv_iconst (v := (nI 0)) hx hb dX12_factor_38 (by decide) ?_
      exact B39 st x1 (nI 0) _ _ _ h hW hS (lv_sub hl [0, 1] rfl)
    · refine lv_iconst (v := (nI 1)) hx hb dX12_factor_34 (by decide) ?_
      refine lv_goto (tgt := 39) hx hb dX12_factor_35 (by decide) ?_
      exact B39 st x1 (nI 1) _ _ _ h hW hS (lv_sub hl [0, 1] rfl)
  have B169 : ∀ (st : zS) (x2 : Int32) (x3 : Int32) (y0 : Int32) (H : Heap) (locs : List Loc) (ls : Array Slot), f_X12_factor_169 rec_ N o st x2 x3 y0 = some st' → zWd G st H → va_S (zA G) s.heap H locs → lv_has ls 5 [(0, .ref (G.2.2.2 + o)), (2, .int x2), (3, .int x3)] → W p l e (zRm (dB + (D + 1)) 0 0) s m args below meth c H locs 0 0 (MQ below (zQ G none st') args s 0 0 (zA G)) (F0 m 169 ls [.int y0, .ref (G.2.2.2 + o)]) := by
    intro st x2 x3 y0 H locs ls h hW hS hl
    unfold f_X12_factor_169 at h
    obtain ⟨t28, h⟩ := zc_at h
    obtain ⟨t35, h⟩ := zc_at h
    refine z_pI hx hb hq hown hK hW hS fp_RX12_48 t28 (fun h => by cases h) (zB_n t35) (zB_f t35) dX12_factor_169 (fun H locs hW hS => ?_)
    refine lv_aload_n hx hb dX12_factor_172 rfl (lv_at hl 0 rfl) ?_
    obtain ⟨st30, r31, c29, h⟩ := zb_at h
    refine z_cV hx hb hq hml hown hK hW hS 12 [] [] rfl (List.mem_singleton.mp t28) (c_X12_figures l G N (zPM st o 7 y0) o c29) (zi zm308) (zi zm309) (zi zm310) (zi zm5) (zi zm311) cal_X12_figures rfl rfl hl.1 rfl (Nat.le_of_ble_eq_true rfl) (zR_ok (by omega) (by decide)) ⟨(Nat.le_of_ble_eq_true rfl), (Nat.le_of_ble_eq_true rfl)⟩ dX12_factor_173 (fun H locs hW hS => ?_)
    refine W.eq (g2 := F0 m 176 ls [.int r31]) rfl ?_
    refine lv_istore (lv' := [(4, .int r31), (0, .ref (G.2.2.2 + o)), (2, .int x2), (3, .int x3)]) hx hb dX12_factor_176 hl (by decide) rfl (fun ls hl => ?_)
    refine lv_aload_n hx hb dX12_factor_178 rfl (lv_at hl 1 rfl) ?_
    refine lv_iload_n hx hb dX12_factor_179 rfl (lv_at hl 2 rfl) ?_
    refine lv_bipush (v := (nI 8)) hx hb dX12_factor_180 (by decide) ?_
    refine lv_iload_n hx hb dX12_factor_182 rfl (lv_at hl 3 rfl) ?_
    refine lv_imul hx hb dX12_factor_183 ?_
    refine lv_iadd hx hb dX12_factor_184 ?_
    refine lv_bipush (v := (nI 32)) hx hb dX12_factor_185 (by decide) ?_
    refine lv_iload hx hb dX12_factor_187 (lv_at hl 0 rfl) ?_
    refine lv_imul hx hb dX12_factor_189 ?_
    refine lv_iadd hx hb dX12_factor_190 ?_
    obtain ⟨t32, h⟩ := zc_at h
    obtain ⟨st34, c33, h⟩ := zd_at h
    refine z_cV hx hb hq hml hown hK hW hS 12 [.int (((x2 + ((nI 8) * x3)) + ((nI 32) * r31)))] [] rfl (List.mem_singleton.mp t32) (c_X12_emits l G st30 o ((x2 + ((nI 8) * x3)) + ((nI 32) * r31)) c33) (zi zm319) (zi zm320) (zi zm321) (zi zm5) (zi zm322) cal_X12_emits rfl rfl hl.1 rfl (Nat.le_of_ble_eq_true rfl) (zR_ok (by omega) (by decide)) ⟨(Nat.le_of_ble_eq_true rfl), (Nat.le_of_ble_eq_true rfl)⟩ dX12_factor_191 (fun H locs hW hS => ?_)
    refine W.eq (g2 := F0 m 194 ls []) rfl ?_
    obtain rfl := Option.some.inj h
    exact z_rv hx hb hr hlk hW hS (Nat.le_of_ble_eq_true rfl) (Nat.le_of_ble_eq_true rfl) dX12_factor_194
  have B164 : ∀ (st : zS) (x2 : Int32) (x3 : Int32) (H : Heap) (locs : List Loc) (ls : Array Slot), f_X12_factor_164 rec_ N o st x2 x3 = some st' → zWd G st H → va_S (zA G) s.heap H locs → lv_has ls 5 [(0, .ref (G.2.2.2 + o)), (2, .int x2), (3, .int x3)] → W p l e (zRm (dB + (D + 1)) 0 0) s m args below meth c H locs 0 0 (MQ below (zQ G none st') args s 0 0 (zA G)) (F0 m 164 ls [.ref (G.2.2.2 + o)]) := by
    intro st x2 x3 H locs ls h hW hS hl
    unfold f_X12_factor_164 at h
    refine lv_iconst (v := (nI 1)) hx hb dX12_factor_164 (by decide) ?_
    refine lv_goto (tgt := 169) hx hb dX12_factor_165 (by decide) ?_
    exact B169 st x2 x3 (nI 1) _ _ _ h hW hS (lv_sub hl [0, 1, 2] rfl)
  have B150 : ∀ (st : zS) (x2 : Int32) (y0 : Int32) (H : Heap) (locs : List Loc) (ls : Array Slot), f_X12_factor_150 rec_ N o st x2 y0 = some st' → zWd G st H → va_S (zA G) s.heap H locs → lv_has ls 5 [(0, .ref (G.2.2.2 + o)), (2, .int x2)] → W p l e (zRm (dB + (D + 1)) 0 0) s m args below meth c H locs 0 0 (MQ below (zQ G none st') args s 0 0 (zA G)) (F0 m 150 ls [.int y0]) := by
    intro st x2 y0 H locs ls h hW hS hl
    unfold f_X12_factor_150 at h
    refine lv_istore_n (lv' := [(3, .int y0), (0, .ref (G.2.2.2 + o)), (2, .int x2)]) hx hb dX12_factor_150 rfl hl (by decide) rfl (fun ls hl => ?_)
    refine lv_aload_n hx hb dX12_factor_151 rfl (lv_at hl 1 rfl) ?_
    refine lv_aload_n hx hb dX12_factor_152 rfl (lv_at hl 1 rfl) ?_
    obtain ⟨t27, h⟩ := zc_at h
    refine z_gI hx hb hq hown hK hW fs_RX12_48 t27 dX12_factor_153 ?_
    refine z_brn (lv_if_ne (tgt := 164) hx hb dX12_factor_156 (by decide)) h (fun h => ?_) (fun h => ?_)
    · exact B164 st x2 y0 _ _ _ h hW hS (lv_sub hl [1, 2, 0] rfl)
    · refine lv_iload_n hx hb dX12_factor_159 rfl (lv_at hl 0 rfl) ?_
      refine lv_iconst (v := (-1)) hx hb dX12_factor_160 (by decide) ?_
      refine z_brn (lv_icmp_ne (tgt := 168) hx hb dX12_factor_161 (by decide)) h (fun h => ?_) (fun h => ?_)
      · refine lv_iconst (v := (nI 0)) hx hb dX12_factor_168 (by decide) ?_
        exact B169 st x2 y0 (nI 0) _ _ _ h hW hS (lv_sub hl [1, 2, 0] rfl)
      · exact B164 st x2 y0 _ _ _ h hW hS (lv_sub hl [1, 2, 0] rfl)
  have B130 : ∀ (st : zS) (x2 : Int32) (y0 : Int32) (H : Heap) (locs : List Loc) (ls : Array Slot), f_X12_factor_130 rec_ N o st x2 y0 = some st' → zWd G st H → va_S (zA G) s.heap H locs → lv_has ls 5 [(0, .ref (G.2.2.2 + o)), (2, .int x2)] → W p l e (zRm (dB + (D + 1)) 0 0) s m args below meth c H locs 0 0 (MQ below (zQ G none st') args s 0 0 (zA G)) (F0 m 130 ls [.int y0, .ref (G.2.2.2 + o)]) := by
    intro st x2 y0 H locs ls h hW hS hl
    unfold f_X12_factor_130 at h
    obtain ⟨t23, h⟩ := zc_at h
    obtain ⟨t36, h⟩ := zc_at h
    refine z_pI hx hb hq hown hK hW hS fp_RX12_48 t23 (fun h => by cases h) (zB_n t36) (zB_f t36) dX12_factor_130 (fun H locs hW hS => ?_)
    refine lv_aload_n hx hb dX12_factor_133 rfl (lv_at hl 0 rfl) ?_
    refine z_gI hx hb hq hown hK hW fs_RX12_48 t23 dX12_factor_134 ?_
    refine z_br (lv_if_eq (tgt := 144) hx hb dX12_factor_137 (by decide)) h (fun h => ?_) (fun h => ?_)
    · refine lv_aload_n hx hb dX12_factor_144 rfl (lv_at hl 0 rfl) ?_
      refine va_ldcS hx hb hown (hK.2.2.2.2.2.2.1 11 (by decide)).2 dX12_factor_145 ?_
      obtain ⟨st25, r26, c24, h⟩ := zb_at h
      refine z_cV hx hb hq hml hown hK hW hS 12 [.ref (G.2.2.1.1 (11))] [] rfl (List.mem_singleton.mp t23) (c_X12_among l G N (zPM st o 7 y0) o 11 c24) (zi zm328) (zi zm329) (zi zm330) (zi zm5) (zi zm331) cal_X12_among rfl rfl hl.1 rfl (Nat.le_of_ble_eq_true rfl) (zR_ok (by omega) (by decide)) ⟨(Nat.le_of_ble_eq_true rfl), (Nat.le_of_ble_eq_true rfl)⟩ dX12_factor_147 (fun H locs hW hS => ?_)
      refine W.eq (g2 := F0 m 150 ls [.int r26]) rfl ?_
      exact B150 st25 x2 r26 _ _ _ h hW hS (lv_sub hl [0, 1] rfl)
    · refine lv_iconst (v := (nI 0)) hx hb dX12_factor_140 (by decide) ?_
      refine lv_goto (tgt := 150) hx hb dX12_factor_141 (by decide) ?_
      exact B150 (zPM st o 7 y0) x2 (nI 0) _ _ _ h hW hS (lv_sub hl [0, 1] rfl)
  refine lv_aload_n hx hb dX12_factor_0 rfl (lv_at hl 0 rfl) ?_
  obtain ⟨t1, h⟩ := zc_at h
  refine z_gI hx hb hq hown hK hW fs_RX12_48 t1 dX12_factor_1 ?_
  refine z_br (lv_if_eq (tgt := 8) hx hb dX12_factor_4 (by decide)) h (fun h => ?_) (fun h => ?_)
  · refine lv_aload_n hx hb dX12_factor_8 rfl (lv_at hl 0 rfl) ?_
    obtain ⟨r3, c2, h⟩ := zd_at h
    refine z_cV hx hb hq hml hown hK hW hS 12 [] [] rfl (List.mem_singleton.mp t1) (c_X12_here l G st o c2) (zi zm290) (zi zm291) (zi zm292) (zi zm5) (zi zm293) cal_X12_here rfl rfl hl.1 rfl (Nat.le_of_ble_eq_true rfl) (zR_ok (by omega) (by decide)) ⟨(Nat.le_of_ble_eq_true rfl), (Nat.le_of_ble_eq_true rfl)⟩ dX12_factor_9 (fun H locs hW hS => ?_)
    refine W.eq (g2 := F0 m 12 ls [.int r3]) rfl ?_
    refine lv_istore_n (lv' := [(1, .int r3), (0, .ref (G.2.2.2 + o))]) hx hb dX12_factor_12 rfl hl (by decide) rfl (fun ls hl => ?_)
    refine lv_iload_n hx hb dX12_factor_13 rfl (lv_at hl 0 rfl) ?_
    refine lv_bipush (v := (nI 33)) hx hb dX12_factor_14 (by decide) ?_
    refine z_br (lv_icmp_eq (tgt := 25) hx hb dX12_factor_16 (by decide)) h (fun h => ?_) (fun h => ?_)
    · exact B25 st r3 _ _ _ h hW hS (lv_sub hl [1, 0] rfl)
    · refine lv_iload_n hx hb dX12_factor_19 rfl (lv_at hl 0 rfl) ?_
      refine lv_bipush (v := (nI 40)) hx hb dX12_factor_20 (by decide) ?_
      refine z_brn (lv_icmp_ne (tgt := 112) hx hb dX12_factor_22 (by decide)) h (fun h => ?_) (fun h => ?_)
      · refine lv_aload_n hx hb dX12_factor_112 rfl (lv_at hl 1 rfl) ?_
        refine va_ldcS hx hb hown (hK.2.2.2.2.2.2.1 10 (by decide)).2 dX12_factor_113 ?_
        obtain ⟨st21, r22, c20, h⟩ := zb_at h
        refine z_cV hx hb hq hml hown hK hW hS 12 [.ref (G.2.2.1.1 (10))] [] rfl (List.mem_singleton.mp t1) (c_X12_among l G N st o 10 c20) (zi zm328) (zi zm329) (zi zm330) (zi zm5) (zi zm331) cal_X12_among rfl rfl hl.1 rfl (Nat.le_of_ble_eq_true rfl) (zR_ok (by omega) (by decide)) ⟨(Nat.le_of_ble_eq_true rfl), (Nat.le_of_ble_eq_true rfl)⟩ dX12_factor_115 (fun H locs hW hS => ?_)
        refine W.eq (g2 := F0 m 118 ls [.int r22]) rfl ?_
        refine lv_istore_n (lv' := [(2, .int r22), (1, .int r3), (0, .ref (G.2.2.2 + o))]) hx hb dX12_factor_118 rfl hl (by decide) rfl (fun ls hl => ?_)
        refine lv_aload_n hx hb dX12_factor_119 rfl (lv_at hl 2 rfl) ?_
        refine lv_iload_n hx hb dX12_factor_120 rfl (lv_at hl 0 rfl) ?_
        refine lv_iconst (v := (-1)) hx hb dX12_factor_121 (by decide) ?_
        refine z_brn (lv_icmp_ne (tgt := 129) hx hb dX12_factor_122 (by decide)) h (fun h => ?_) (fun h => ?_)
        · refine lv_iconst (v := (nI 0)) hx hb dX12_factor_129 (by decide) ?_
          exact B130 st21 r22 (nI 0) _ _ _ h hW hS (lv_sub hl [2, 0] rfl)
        · refine lv_iconst (v := (nI 1)) hx hb dX12_factor_125 (by decide) ?_
          refine lv_goto (tgt := 130) hx hb dX12_factor_126 (by decide) ?_
          exact B130 st21 r22 (nI 1) _ _ _ h hW hS (lv_sub hl [2, 0] rfl)
      · exact B25 st r3 _ _ _ h hW hS (lv_sub hl [1, 0] rfl)
  · obtain rfl := Option.some.inj h
    exact z_rv hx hb hr hlk hW hS (Nat.le_of_ble_eq_true rfl) (Nat.le_of_ble_eq_true rfl) dX12_factor_7
def f_X12_every_4 (rec_ : Nat → zS → Nat → Option zS) (N : Nat) (o : Nat)  : Nat → zS → Option zS
  | 0, _ => none
  | n4 + 1, st => (if zTg st o ∈ [22] then (if (zM st o 7) = 0 then (Option.bind (f_X12_here st o) (fun r6 => (if r6 = (nI 38) then (Option.bind (rec_ 2 (zPM st o 5 ((zM st o 5) + (nI 1))) o) (fun st8 => (if zTg st8 o ∈ [22] then (Option.bind (f_X12_emits st8 o (-2 : Int32)) (fun st11 => ((f_X12_every_4 rec_ N o n4) st11))) else none))) else (some st)))) else (some st)) else none)
def f_X12_every (rec_ : Nat → zS → Nat → Option zS) (N : Nat) (st : zS) (o : Nat) : Option zS := (if zTg st o ∈ [22] then (Option.bind (rec_ 2 st o) (fun st3 => (f_X12_every_4 rec_ N o N st3))) else none)
set_option maxHeartbeats 1000000 in
set_option maxRecDepth 100000 in
theorem c_X12_every (l : Launch) (G : zG) (D dB : Nat) (hdB : 1 ≤ dB) (rec_ : Nat → zS → Nat → Option zS) (hr0 : ∀ (st : zS) (o : Nat) (st' : zS), rec_ 0 st o  = some st' → zMet l G yX12_some cX12_some 1 none (dB + D) 0 0 [.ref (G.2.2.2 + o)] st none st') (hr1 : ∀ (st : zS) (o : Nat) (st' : zS), rec_ 1 st o  = some st' → zMet l G yX12_every cX12_every 1 none (dB + D) 0 0 [.ref (G.2.2.2 + o)] st none st') (hr2 : ∀ (st : zS) (o : Nat) (st' : zS), rec_ 2 st o  = some st' → zMet l G yX12_factor cX12_factor 5 none (dB + D) 0 0 [.ref (G.2.2.2 + o)] st none st') (N : Nat) (st : zS) (o : Nat) {st' : zS} (h : f_X12_every rec_ N st o = some st') : zMet l G yX12_every cX12_every 1 none (dB + (D + 1)) 0 0 [.ref (G.2.2.2 + o)] st none st' := by
  refine zMet_of (by decide +kernel) ?_
  intro p e s m args below meth c X
  obtain ⟨hx, hb, hr, hml, hown, hq, hlk, hK, -, hin, hW, hS⟩ := X
  have hown : s.vm.findClass RX12 = some m.cls := hown
  refine z_ent (by exact Nat.le_of_ble_eq_true rfl) (fun ls hl => ?_)
  have hl : lv_has ls 1 [(0, .ref (G.2.2.2 + o))] := hl
  unfold f_X12_every at h
  have B4 : ∀ (n4 : Nat) (st : zS) (H : Heap) (locs : List Loc) (ls : Array Slot), f_X12_every_4 rec_ N o n4 st = some st' → zWd G st H → va_S (zA G) s.heap H locs → lv_has ls 1 [(0, .ref (G.2.2.2 + o))] → W p l e (zRm (dB + (D + 1)) 0 0) s m args below meth c H locs 0 0 (MQ below (zQ G none st') args s 0 0 (zA G)) (F0 m 4 ls []) := by
    intro n4
    induction n4 with
    | zero =>
      intro st H locs ls h
      unfold f_X12_every_4 at h
      cases h
    | succ n4 ih4 =>
      intro st H locs ls h hW hS hl
      unfold f_X12_every_4 at h
      refine lv_aload_n hx hb dX12_every_4 rfl (lv_at hl 0 rfl) ?_
      obtain ⟨t4, h⟩ := zc_at h
      refine z_gI hx hb hq hown hK hW fs_RX12_48 t4 dX12_every_5 ?_
      refine z_brn (lv_if_ne (tgt := 43) hx hb dX12_every_8 (by decide)) h (fun h => ?_) (fun h => ?_)
      · obtain rfl := Option.some.inj h
        exact z_rv hx hb hr hlk hW hS (Nat.le_of_ble_eq_true rfl) (Nat.le_of_ble_eq_true rfl) dX12_every_43
      · refine lv_aload_n hx hb dX12_every_11 rfl (lv_at hl 0 rfl) ?_
        obtain ⟨r6, c5, h⟩ := zd_at h
        refine z_cV hx hb hq hml hown hK hW hS 12 [] [] rfl (List.mem_singleton.mp t4) (c_X12_here l G st o c5) (zi zm290) (zi zm291) (zi zm292) (zi zm5) (zi zm293) cal_X12_here rfl rfl hl.1 rfl (Nat.le_of_ble_eq_true rfl) (zR_ok (by omega) (by decide)) ⟨(Nat.le_of_ble_eq_true rfl), (Nat.le_of_ble_eq_true rfl)⟩ dX12_every_12 (fun H locs hW hS => ?_)
        refine W.eq (g2 := F0 m 15 ls [.int r6]) rfl ?_
        refine lv_bipush (v := (nI 38)) hx hb dX12_every_15 (by decide) ?_
        refine z_brn (lv_icmp_ne (tgt := 43) hx hb dX12_every_17 (by decide)) h (fun h => ?_) (fun h => ?_)
        · obtain rfl := Option.some.inj h
          exact z_rv hx hb hr hlk hW hS (Nat.le_of_ble_eq_true rfl) (Nat.le_of_ble_eq_true rfl) dX12_every_43
        · refine lv_aload_n hx hb dX12_every_20 rfl (lv_at hl 0 rfl) ?_
          refine lv_dup hx hb dX12_every_21 rfl ?_
          refine z_gI hx hb hq hown hK hW fs_RX12_42 t4 dX12_every_22 ?_
          refine lv_iconst (v := (nI 1)) hx hb dX12_every_25 (by decide) ?_
          refine lv_iadd hx hb dX12_every_26 ?_
          refine z_pI hx hb hq hown hK hW hS fp_RX12_42 t4 (fun h => by cases h) rfl rfl dX12_every_27 (fun H locs hW hS => ?_)
          refine lv_aload_n hx hb dX12_every_30 rfl (lv_at hl 0 rfl) ?_
          obtain ⟨st8, c7, h⟩ := zd_at h
          refine z_cV hx hb hq hml hown hK hW hS 12 [] [] rfl (List.mem_singleton.mp t4) (hr2 (zPM st o 5 ((zM st o 5) + (nI 1))) o _ c7) (zi zm324) (zi zm325) (zi zm326) (zi zm5) (zi zm327) cal_X12_factor rfl rfl hl.1 rfl (Nat.le_of_ble_eq_true rfl) (zR_ok (by omega) (by decide)) ⟨(Nat.le_of_ble_eq_true rfl), (Nat.le_of_ble_eq_true rfl)⟩ dX12_every_31 (fun H locs hW hS => ?_)
          refine W.eq (g2 := F0 m 34 ls []) rfl ?_
          refine lv_aload_n hx hb dX12_every_34 rfl (lv_at hl 0 rfl) ?_
          refine lv_bipush (v := (-2)) hx hb dX12_every_35 (by decide) ?_
          obtain ⟨t9, h⟩ := zc_at h
          obtain ⟨st11, c10, h⟩ := zd_at h
          refine z_cV hx hb hq hml hown hK hW hS 12 [.int ((-2))] [] rfl (List.mem_singleton.mp t9) (c_X12_emits l G st8 o (-2 : Int32) c10) (zi zm319) (zi zm320) (zi zm321) (zi zm5) (zi zm322) cal_X12_emits rfl rfl hl.1 rfl (Nat.le_of_ble_eq_true rfl) (zR_ok (by omega) (by decide)) ⟨(Nat.le_of_ble_eq_true rfl), (Nat.le_of_ble_eq_true rfl)⟩ dX12_every_37 (fun H locs hW hS => ?_)
          refine W.eq (g2 := F0 m 40 ls []) rfl ?_
          refine lv_goto (tgt := 4) hx hb dX12_every_40 (by decide) ?_
          exact ih4 st11 _ _ _ h hW hS (lv_sub hl [0] rfl)
  refine lv_aload_n hx hb dX12_every_0 rfl (lv_at hl 0 rfl) ?_
  obtain ⟨t1, h⟩ := zc_at h
  obtain ⟨st3, c2, h⟩ := zd_at h
  refine z_cV hx hb hq hml hown hK hW hS 12 [] [] rfl (List.mem_singleton.mp t1) (hr2 st o _ c2) (zi zm324) (zi zm325) (zi zm326) (zi zm5) (zi zm327) cal_X12_factor rfl rfl hl.1 rfl (Nat.le_of_ble_eq_true rfl) (zR_ok (by omega) (by decide)) ⟨(Nat.le_of_ble_eq_true rfl), (Nat.le_of_ble_eq_true rfl)⟩ dX12_every_1 (fun H locs hW hS => ?_)
  refine W.eq (g2 := F0 m 4 ls []) rfl ?_
  exact B4 N st3 _ _ _ h hW hS (lv_sub hl [0] rfl)
def f_X12_some_4 (rec_ : Nat → zS → Nat → Option zS) (N : Nat) (o : Nat)  : Nat → zS → Option zS
  | 0, _ => none
  | n4 + 1, st => (if zTg st o ∈ [22] then (if (zM st o 7) = 0 then (Option.bind (f_X12_here st o) (fun r6 => (if r6 = (nI 124) then (Option.bind (rec_ 1 (zPM st o 5 ((zM st o 5) + (nI 1))) o) (fun st8 => (if zTg st8 o ∈ [22] then (Option.bind (f_X12_emits st8 o (-3 : Int32)) (fun st11 => ((f_X12_some_4 rec_ N o n4) st11))) else none))) else (some st)))) else (some st)) else none)
def f_X12_some (rec_ : Nat → zS → Nat → Option zS) (N : Nat) (st : zS) (o : Nat) : Option zS := (if zTg st o ∈ [22] then (Option.bind (rec_ 1 st o) (fun st3 => (f_X12_some_4 rec_ N o N st3))) else none)
set_option maxHeartbeats 1000000 in
set_option maxRecDepth 100000 in
theorem c_X12_some (l : Launch) (G : zG) (D dB : Nat) (hdB : 1 ≤ dB) (rec_ : Nat → zS → Nat → Option zS) (hr0 : ∀ (st : zS) (o : Nat) (st' : zS), rec_ 0 st o  = some st' → zMet l G yX12_some cX12_some 1 none (dB + D) 0 0 [.ref (G.2.2.2 + o)] st none st') (hr1 : ∀ (st : zS) (o : Nat) (st' : zS), rec_ 1 st o  = some st' → zMet l G yX12_every cX12_every 1 none (dB + D) 0 0 [.ref (G.2.2.2 + o)] st none st') (hr2 : ∀ (st : zS) (o : Nat) (st' : zS), rec_ 2 st o  = some st' → zMet l G yX12_factor cX12_factor 5 none (dB + D) 0 0 [.ref (G.2.2.2 + o)] st none st') (N : Nat) (st : zS) (o : Nat) {st' : zS} (h : f_X12_some rec_ N st o = some st') : zMet l G yX12_some cX12_some 1 none (dB + (D + 1)) 0 0 [.ref (G.2.2.2 + o)] st none st' := by
  refine zMet_of (by decide +kernel) ?_
  intro p e s m args below meth c X
  obtain ⟨hx, hb, hr, hml, hown, hq, hlk, hK, -, hin, hW, hS⟩ := X
  have hown : s.vm.findClass RX12 = some m.cls := hown
  refine z_ent (by exact Nat.le_of_ble_eq_true rfl) (fun ls hl => ?_)
  have hl : lv_has ls 1 [(0, .ref (G.2.2.2 + o))] := hl
  unfold f_X12_some at h
  have B4 : ∀ (n4 : Nat) (st : zS) (H : Heap) (locs : List Loc) (ls : Array Slot), f_X12_some_4 rec_ N o n4 st = some st' → zWd G st H → va_S (zA G) s.heap H locs → lv_has ls 1 [(0, .ref (G.2.2.2 + o))] → W p l e (zRm (dB + (D + 1)) 0 0) s m args below meth c H locs 0 0 (MQ below (zQ G none st') args s 0 0 (zA G)) (F0 m 4 ls []) := by
    intro n4
    induction n4 with
    | zero =>
      intro st H locs ls h
      unfold f_X12_some_4 at h
      cases h
    | succ n4 ih4 =>
      intro st H locs ls h hW hS hl
      unfold f_X12_some_4 at h
      refine lv_aload_n hx hb dX12_some_4 rfl (lv_at hl 0 rfl) ?_
      obtain ⟨t4, h⟩ := zc_at h
      refine z_gI hx hb hq hown hK hW fs_RX12_48 t4 dX12_some_5 ?_
      refine z_brn (lv_if_ne (tgt := 43) hx hb dX12_some_8 (by decide)) h (fun h => ?_) (fun h => ?_)
      · obtain rfl := Option.some.inj h
        exact z_rv hx hb hr hlk hW hS (Nat.le_of_ble_eq_true rfl) (Nat.le_of_ble_eq_true rfl) dX12_some_43
      · refine lv_aload_n hx hb dX12_some_11 rfl (lv_at hl 0 rfl) ?_
        obtain ⟨r6, c5, h⟩ := zd_at h
        refine z_cV hx hb hq hml hown hK hW hS 12 [] [] rfl (List.mem_singleton.mp t4) (c_X12_here l G st o c5) (zi zm290) (zi zm291) (zi zm292) (zi zm5) (zi zm293) cal_X12_here rfl rfl hl.1 rfl (Nat.le_of_ble_eq_true rfl) (zR_ok (by omega) (by decide)) ⟨(Nat.le_of_ble_eq_true rfl), (Nat.le_of_ble_eq_true rfl)⟩ dX12_some_12 (fun H locs hW hS => ?_)
        refine W.eq (g2 := F0 m 15 ls [.int r6]) rfl ?_
        refine lv_bipush (v := (nI 124)) hx hb dX12_some_15 (by decide) ?_
        refine z_brn (lv_icmp_ne (tgt := 43) hx hb dX12_some_17 (by decide)) h (fun h => ?_) (fun h => ?_)
        · obtain rfl := Option.some.inj h
          exact z_rv hx hb hr hlk hW hS (Nat.le_of_ble_eq_true rfl) (Nat.le_of_ble_eq_true rfl) dX12_some_43
        · refine lv_aload_n hx hb dX12_some_20 rfl (lv_at hl 0 rfl) ?_
          refine lv_dup hx hb dX12_some_21 rfl ?_
          refine z_gI hx hb hq hown hK hW fs_RX12_42 t4 dX12_some_22 ?_
          refine lv_iconst (v := (nI 1)) hx hb dX12_some_25 (by decide) ?_
          refine lv_iadd hx hb dX12_some_26 ?_
          refine z_pI hx hb hq hown hK hW hS fp_RX12_42 t4 (fun h => by cases h) rfl rfl dX12_some_27 (fun H locs hW hS => ?_)
          refine lv_aload_n hx hb dX12_some_30 rfl (lv_at hl 0 rfl) ?_
          obtain ⟨st8, c7, h⟩ := zd_at h
          refine z_cV hx hb hq hml hown hK hW hS 12 [] [] rfl (List.mem_singleton.mp t4) (hr1 (zPM st o 5 ((zM st o 5) + (nI 1))) o _ c7) (zi zm316) (zi zm317) (zi zm318) (zi zm5) (zi zm323) cal_X12_every rfl rfl hl.1 rfl (Nat.le_of_ble_eq_true rfl) (zR_ok (by omega) (by decide)) ⟨(Nat.le_of_ble_eq_true rfl), (Nat.le_of_ble_eq_true rfl)⟩ dX12_some_31 (fun H locs hW hS => ?_)
          refine W.eq (g2 := F0 m 34 ls []) rfl ?_
          refine lv_aload_n hx hb dX12_some_34 rfl (lv_at hl 0 rfl) ?_
          refine lv_bipush (v := (-3)) hx hb dX12_some_35 (by decide) ?_
          obtain ⟨t9, h⟩ := zc_at h
          obtain ⟨st11, c10, h⟩ := zd_at h
          refine z_cV hx hb hq hml hown hK hW hS 12 [.int ((-3))] [] rfl (List.mem_singleton.mp t9) (c_X12_emits l G st8 o (-3 : Int32) c10) (zi zm319) (zi zm320) (zi zm321) (zi zm5) (zi zm322) cal_X12_emits rfl rfl hl.1 rfl (Nat.le_of_ble_eq_true rfl) (zR_ok (by omega) (by decide)) ⟨(Nat.le_of_ble_eq_true rfl), (Nat.le_of_ble_eq_true rfl)⟩ dX12_some_37 (fun H locs hW hS => ?_)
          refine W.eq (g2 := F0 m 40 ls []) rfl ?_
          refine lv_goto (tgt := 4) hx hb dX12_some_40 (by decide) ?_
          exact ih4 st11 _ _ _ h hW hS (lv_sub hl [0] rfl)
  refine lv_aload_n hx hb dX12_some_0 rfl (lv_at hl 0 rfl) ?_
  obtain ⟨t1, h⟩ := zc_at h
  obtain ⟨st3, c2, h⟩ := zd_at h
  refine z_cV hx hb hq hml hown hK hW hS 12 [] [] rfl (List.mem_singleton.mp t1) (hr1 st o _ c2) (zi zm316) (zi zm317) (zi zm318) (zi zm5) (zi zm323) cal_X12_every rfl rfl hl.1 rfl (Nat.le_of_ble_eq_true rfl) (zR_ok (by omega) (by decide)) ⟨(Nat.le_of_ble_eq_true rfl), (Nat.le_of_ble_eq_true rfl)⟩ dX12_some_1 (fun H locs hW hS => ?_)
  refine W.eq (g2 := F0 m 4 ls []) rfl ?_
  exact B4 N st3 _ _ _ h hW hS (lv_sub hl [0] rfl)
def fg_X12 (N : Nat) : Nat → Nat → zS → Nat → Option zS
  | 0, _, _, _ => none
  | D + 1, k, st, o => if k = 0 then f_X12_some (fg_X12 N D) N st o  else if k = 1 then f_X12_every (fg_X12 N D) N st o  else f_X12_factor (fg_X12 N D) N st o 
def g_X12_some (N D : Nat) (st : zS) (o : Nat)  : Option zS := fg_X12 N D 0 st o 
def g_X12_every (N D : Nat) (st : zS) (o : Nat)  : Option zS := fg_X12 N D 1 st o 
def g_X12_factor (N D : Nat) (st : zS) (o : Nat)  : Option zS := fg_X12 N D 2 st o 
theorem cg_X12_all (l : Launch) (G : zG) (N : Nat) : ∀ D : Nat, (∀ (st : zS) (o : Nat)  (st' : zS), fg_X12 N D 0 st o  = some st' → zMet l G yX12_some cX12_some 1 none (6 + D) 0 0 [.ref (G.2.2.2 + o)] st none st') ∧ (∀ (st : zS) (o : Nat)  (st' : zS), fg_X12 N D 1 st o  = some st' → zMet l G yX12_every cX12_every 1 none (6 + D) 0 0 [.ref (G.2.2.2 + o)] st none st') ∧ (∀ (st : zS) (o : Nat)  (st' : zS), fg_X12 N D 2 st o  = some st' → zMet l G yX12_factor cX12_factor 5 none (6 + D) 0 0 [.ref (G.2.2.2 + o)] st none st') := by
  intro D
  induction D with
  | zero => exact ⟨fun st o  st' h => (by unfold fg_X12 at h; cases h), fun st o  st' h => (by unfold fg_X12 at h; cases h), fun st o  st' h => (by unfold fg_X12 at h; cases h)⟩
  | succ D ih =>
    obtain ⟨i0, i1, i2⟩ := ih
    have q0 : ∀ (st : zS) (o : Nat)  (st' : zS) , fg_X12 N (D + 1) 0 st o  = some st' → f_X12_some (fg_X12 N D) N st o  = some st' := fun st o  st' h => h
    have q1 : ∀ (st : zS) (o : Nat)  (st' : zS) , fg_X12 N (D + 1) 1 st o  = some st' → f_X12_every (fg_X12 N D) N st o  = some st' := fun st o  st' h => h
    have q2 : ∀ (st : zS) (o : Nat)  (st' : zS) , fg_X12 N (D + 1) 2 st o  = some st' → f_X12_factor (fg_X12 N D) N st o  = some st' := fun st o  st' h => h
    exact ⟨fun st o  st' h => c_X12_some l G D 6 (by decide) (fg_X12 N D) i0 i1 i2 N st o  (q0 _ _  _ h), fun st o  st' h => c_X12_every l G D 6 (by decide) (fg_X12 N D) i0 i1 i2 N st o  (q1 _ _  _ h), fun st o  st' h => c_X12_factor l G D 6 (by decide) (fg_X12 N D) i0 i1 i2 N st o  (q2 _ _  _ h)⟩
theorem cg_X12_some (l : Launch) (G : zG) (N D : Nat) (st : zS) (o : Nat)  {st' : zS} (h : g_X12_some N D st o  = some st') : zMet l G yX12_some cX12_some 1 none (6 + D) 0 0 [.ref (G.2.2.2 + o)] st none st' := (cg_X12_all l G N D).1 st o  st' h
theorem cg_X12_every (l : Launch) (G : zG) (N D : Nat) (st : zS) (o : Nat)  {st' : zS} (h : g_X12_every N D st o  = some st') : zMet l G yX12_every cX12_every 1 none (6 + D) 0 0 [.ref (G.2.2.2 + o)] st none st' := (cg_X12_all l G N D).2.1 st o  st' h
theorem cg_X12_factor (l : Launch) (G : zG) (N D : Nat) (st : zS) (o : Nat)  {st' : zS} (h : g_X12_factor N D st o  = some st') : zMet l G yX12_factor cX12_factor 5 none (6 + D) 0 0 [.ref (G.2.2.2 + o)] st none st' := (cg_X12_all l G N D).2.2 st o  st' h
def f_X12_tellsHere (N : Nat) (st : zS) (o : Nat) (a1 : Int32) (a2 : Nat) : Option zS := (if zTg st o ∈ [22] then (Option.bind (f_X12_spells N st o a2) (fun st3 => (if zTg st3 o ∈ [22] then (zb (f_X12_figures N st3 o) (fun st6 r7 => (if zTg st6 o ∈ [22] then (if (zM st6 o 7) = 0 then (Option.bind (zR st6 o 1) (fun b9 => (if zTg st6 b9 ∈ [1] then (if zin (a1 + (zM st6 o 4)) (zLn st6 b9) then (some (zPM st6 b9 ((a1 + (zM st6 o 4))).toNatClampNeg r7)) else none) else none))) else (some st6)) else none))) else none))) else none)
set_option maxHeartbeats 1000000 in
set_option maxRecDepth 100000 in
theorem c_X12_tellsHere (l : Launch) (G : zG) (N : Nat) (st : zS) (o : Nat) (a1 : Int32) (a2 : Nat) {st' : zS} (h : f_X12_tellsHere N st o a1 a2 = some st') : zMet l G yX12_tellsHere cX12_tellsHere 4 none 6 0 0 [.ref (G.2.2.2 + o), .int a1, .ref (G.2.2.1.1 (a2))] st none st' := by
  refine zMet_of (by decide +kernel) ?_
  intro p e s m args below meth c X
  obtain ⟨hx, hb, hr, hml, hown, hq, hlk, hK, -, hin, hW, hS⟩ := X
  have hown : s.vm.findClass RX12 = some m.cls := hown
  refine z_ent (by exact Nat.le_of_ble_eq_true rfl) (fun ls hl => ?_)
  have hl : lv_has ls 4 [(0, .ref (G.2.2.2 + o)), (1, .int a1), (2, .ref (G.2.2.1.1 (a2)))] := hl
  unfold f_X12_tellsHere at h
  refine lv_aload_n hx hb dX12_tellsHere_0 rfl (lv_at hl 0 rfl) ?_
  refine lv_aload_n hx hb dX12_tellsHere_1 rfl (lv_at hl 2 rfl) ?_
  obtain ⟨t1, h⟩ := zc_at h
  obtain ⟨st3, c2, h⟩ := zd_at h
  refine z_cV hx hb hq hml hown hK hW hS 12 [.ref (G.2.2.1.1 (a2))] [] rfl (List.mem_singleton.mp t1) (c_X12_spells l G N st o a2 c2) (zi zm298) (zi zm299) (zi zm300) (zi zm5) (zi zm301) cal_X12_spells rfl rfl hl.1 rfl (Nat.le_of_ble_eq_true rfl) (zR_ok (by omega) (by decide)) ⟨(Nat.le_of_ble_eq_true rfl), (Nat.le_of_ble_eq_true rfl)⟩ dX12_tellsHere_2 (fun H locs hW hS => ?_)
  refine W.eq (g2 := F0 m 5 ls []) rfl ?_
  refine lv_aload_n hx hb dX12_tellsHere_5 rfl (lv_at hl 0 rfl) ?_
  obtain ⟨t4, h⟩ := zc_at h
  obtain ⟨st6, r7, c5, h⟩ := zb_at h
  refine z_cV hx hb hq hml hown hK hW hS 12 [] [] rfl (List.mem_singleton.mp t4) (c_X12_figures l G N st3 o c5) (zi zm308) (zi zm309) (zi zm310) (zi zm5) (zi zm311) cal_X12_figures rfl rfl hl.1 rfl (Nat.le_of_ble_eq_true rfl) (zR_ok (by omega) (by decide)) ⟨(Nat.le_of_ble_eq_true rfl), (Nat.le_of_ble_eq_true rfl)⟩ dX12_tellsHere_6 (fun H locs hW hS => ?_)
  refine W.eq (g2 := F0 m 9 ls [.int r7]) rfl ?_
  refine lv_istore_n (lv' := [(3, .int r7), (0, .ref (G.2.2.2 + o)), (1, .int a1), (2, .ref (G.2.2.1.1 (a2)))]) hx hb dX12_tellsHere_9 rfl hl (by decide) rfl (fun ls hl => ?_)
  refine lv_aload_n hx hb dX12_tellsHere_10 rfl (lv_at hl 1 rfl) ?_
  obtain ⟨t8, h⟩ := zc_at h
  refine z_gI hx hb hq hown hK hW fs_RX12_48 t8 dX12_tellsHere_11 ?_
  refine z_brn (lv_if_ne (tgt := 29) hx hb dX12_tellsHere_14 (by decide)) h (fun h => ?_) (fun h => ?_)
  · obtain rfl := Option.some.inj h
    exact z_rv hx hb hr hlk hW hS (Nat.le_of_ble_eq_true rfl) (Nat.le_of_ble_eq_true rfl) dX12_tellsHere_29
  · refine lv_aload_n hx hb dX12_tellsHere_17 rfl (lv_at hl 1 rfl) ?_
    obtain ⟨b9, hb9, h⟩ := zd_at h
    refine z_gR hx hb hq hown hK hW fs_RX12_9 t8 hb9 dX12_tellsHere_18 ?_
    refine lv_iload_n hx hb dX12_tellsHere_21 rfl (lv_at hl 2 rfl) ?_
    refine lv_aload_n hx hb dX12_tellsHere_22 rfl (lv_at hl 1 rfl) ?_
    refine z_gI hx hb hq hown hK hW fs_RX12_69 t8 dX12_tellsHere_23 ?_
    refine lv_iadd hx hb dX12_tellsHere_26 ?_
    refine lv_iload_n hx hb dX12_tellsHere_27 rfl (lv_at hl 0 rfl) ?_
    obtain ⟨t10, h⟩ := zc_at h
    obtain ⟨t11, h⟩ := zc_at h
    refine z_asI hx hb hK hW hS (List.mem_singleton.mp t10) t11 dX12_tellsHere_28 (fun H locs hW hS => ?_)
    obtain rfl := Option.some.inj h
    exact z_rv hx hb hr hlk hW hS (Nat.le_of_ble_eq_true rfl) (Nat.le_of_ble_eq_true rfl) dX12_tellsHere_29
def f_X12_clauseHere (N : Nat) (st : zS) (o : Nat) : Option zS := (if zTg st o ∈ [22] then (Option.bind (f_X12_here st o) (fun r3 => (if r3 = (nI 99) then (Option.bind (f_X12_tellsHere N st o (nI 238) 8) (fun st6 => (some st6))) else (if r3 = (nI 108) then (Option.bind (f_X12_tellsHere N st o (nI 233) 7) (fun st9 => (some st9))) else (if r3 = (nI 115) then (Option.bind (f_X12_spells N st o 9) (fun st12 => (if zTg st12 o ∈ [22] then (zb (f_X12_figures N st12 o) (fun st15 r16 => (if zTg st15 o ∈ [22] then (Option.bind (f_X12_must st15 o (nI 32)) (fun st19 => (if zTg st19 o ∈ [22] then (Option.bind (g_X12_some N 25 st19 o) (fun st22 => (if zTg st22 o ∈ [22] then (Option.bind (f_X12_emits st22 o ((-10 : Int32) - r16)) (fun st25 => (some st25))) else none))) else none))) else none))) else none))) else (if r3 = (nI 119) then (Option.bind (f_X12_tellsHere N st o (nI 228) 6) (fun st28 => (some st28))) else (some (zPM st o 7 (nI 1))))))))) else none)
set_option maxHeartbeats 1000000 in
set_option maxRecDepth 100000 in
theorem c_X12_clauseHere (l : Launch) (G : zG) (N : Nat) (st : zS) (o : Nat) {st' : zS} (h : f_X12_clauseHere N st o = some st') : zMet l G yX12_clauseHere cX12_clauseHere 2 none 32 0 0 [.ref (G.2.2.2 + o)] st none st' := by
  refine zMet_of (by decide +kernel) ?_
  intro p e s m args below meth c X
  obtain ⟨hx, hb, hr, hml, hown, hq, hlk, hK, -, hin, hW, hS⟩ := X
  have hown : s.vm.findClass RX12 = some m.cls := hown
  refine z_ent (by exact Nat.le_of_ble_eq_true rfl) (fun ls hl => ?_)
  have hl : lv_has ls 2 [(0, .ref (G.2.2.2 + o))] := hl
  unfold f_X12_clauseHere at h
  refine lv_aload_n hx hb dX12_clauseHere_0 rfl (lv_at hl 0 rfl) ?_
  obtain ⟨t1, h⟩ := zc_at h
  obtain ⟨r3, c2, h⟩ := zd_at h
  refine z_cV hx hb hq hml hown hK hW hS 12 [] [] rfl (List.mem_singleton.mp t1) (c_X12_here l G st o c2) (zi zm290) (zi zm291) (zi zm292) (zi zm5) (zi zm293) cal_X12_here rfl rfl hl.1 rfl (Nat.le_of_ble_eq_true rfl) (zR_ok (by omega) (by decide)) ⟨(Nat.le_of_ble_eq_true rfl), (Nat.le_of_ble_eq_true rfl)⟩ dX12_clauseHere_1 (fun H locs hW hS => ?_)
  refine W.eq (g2 := F0 m 4 ls [.int r3]) rfl ?_
  rcases zi_at h with ⟨k4, h⟩ | ⟨k4, h⟩
  · refine lv_lookup (off := 68) (tgt := 72) hx hb dX12_clauseHere_4 (by decide) (by rw [k4]; rfl) (by decide) ?_
    refine lv_aload_n hx hb dX12_clauseHere_72 rfl (lv_at hl 0 rfl) ?_
    refine lv_sipush (v := (nI 238)) hx hb dX12_clauseHere_73 (by decide) ?_
    refine va_ldcS hx hb hown (hK.2.2.2.2.2.2.1 8 (by decide)).2 dX12_clauseHere_76 ?_
    obtain ⟨st6, c5, h⟩ := zd_at h
    refine z_cV hx hb hq hml hown hK hW hS 12 [.int ((nI 238)), .ref (G.2.2.1.1 (8))] [] rfl (List.mem_singleton.mp t1) (c_X12_tellsHere l G N st o (nI 238) 8 c5) (zi zm294) (zi zm295) (zi zm296) (zi zm5) (zi zm297) cal_X12_tellsHere rfl rfl hl.1 rfl (Nat.le_of_ble_eq_true rfl) (zR_ok (by omega) (by decide)) ⟨(Nat.le_of_ble_eq_true rfl), (Nat.le_of_ble_eq_true rfl)⟩ dX12_clauseHere_78 (fun H locs hW hS => ?_)
    refine W.eq (g2 := F0 m 81 ls []) rfl ?_
    refine lv_goto (tgt := 121) hx hb dX12_clauseHere_81 (by decide) ?_
    obtain rfl := Option.some.inj h
    exact z_rv hx hb hr hlk hW hS (Nat.le_of_ble_eq_true rfl) (Nat.le_of_ble_eq_true rfl) dX12_clauseHere_121
  · rcases zi_at h with ⟨k7, h⟩ | ⟨k7, h⟩
    · refine lv_lookup (off := 56) (tgt := 60) hx hb dX12_clauseHere_4 (by decide) (by rw [k7]; rfl) (by decide) ?_
      refine lv_aload_n hx hb dX12_clauseHere_60 rfl (lv_at hl 0 rfl) ?_
      refine lv_sipush (v := (nI 233)) hx hb dX12_clauseHere_61 (by decide) ?_
      refine va_ldcS hx hb hown (hK.2.2.2.2.2.2.1 7 (by decide)).2 dX12_clauseHere_64 ?_
      obtain ⟨st9, c8, h⟩ := zd_at h
      refine z_cV hx hb hq hml hown hK hW hS 12 [.int ((nI 233)), .ref (G.2.2.1.1 (7))] [] rfl (List.mem_singleton.mp t1) (c_X12_tellsHere l G N st o (nI 233) 7 c8) (zi zm294) (zi zm295) (zi zm296) (zi zm5) (zi zm297) cal_X12_tellsHere rfl rfl hl.1 rfl (Nat.le_of_ble_eq_true rfl) (zR_ok (by omega) (by decide)) ⟨(Nat.le_of_ble_eq_true rfl), (Nat.le_of_ble_eq_true rfl)⟩ dX12_clauseHere_66 (fun H locs hW hS => ?_)
      refine W.eq (g2 := F0 m 69 ls []) rfl ?_
      refine lv_goto (tgt := 121) hx hb dX12_clauseHere_69 (by decide) ?_
      obtain rfl := Option.some.inj h
      exact z_rv hx hb hr hlk hW hS (Nat.le_of_ble_eq_true rfl) (Nat.le_of_ble_eq_true rfl) dX12_clauseHere_121
    · rcases zi_at h with ⟨k10, h⟩ | ⟨k10, h⟩
      · refine lv_lookup (off := 80) (tgt := 84) hx hb dX12_clauseHere_4 (by decide) (by rw [k10]; rfl) (by decide) ?_
        refine lv_aload_n hx hb dX12_clauseHere_84 rfl (lv_at hl 0 rfl) ?_
        refine va_ldcS hx hb hown (hK.2.2.2.2.2.2.1 9 (by decide)).2 dX12_clauseHere_85 ?_
        obtain ⟨st12, c11, h⟩ := zd_at h
        refine z_cV hx hb hq hml hown hK hW hS 12 [.ref (G.2.2.1.1 (9))] [] rfl (List.mem_singleton.mp t1) (c_X12_spells l G N st o 9 c11) (zi zm298) (zi zm299) (zi zm300) (zi zm5) (zi zm301) cal_X12_spells rfl rfl hl.1 rfl (Nat.le_of_ble_eq_true rfl) (zR_ok (by omega) (by decide)) ⟨(Nat.le_of_ble_eq_true rfl), (Nat.le_of_ble_eq_true rfl)⟩ dX12_clauseHere_87 (fun H locs hW hS => ?_)
        refine W.eq (g2 := F0 m 90 ls []) rfl ?_
        refine lv_aload_n hx hb dX12_clauseHere_90 rfl (lv_at hl 0 rfl) ?_
        obtain ⟨t13, h⟩ := zc_at h
        obtain ⟨st15, r16, c14, h⟩ := zb_at h
        refine z_cV hx hb hq hml hown hK hW hS 12 [] [] rfl (List.mem_singleton.mp t13) (c_X12_figures l G N st12 o c14) (zi zm308) (zi zm309) (zi zm310) (zi zm5) (zi zm311) cal_X12_figures rfl rfl hl.1 rfl (Nat.le_of_ble_eq_true rfl) (zR_ok (by omega) (by decide)) ⟨(Nat.le_of_ble_eq_true rfl), (Nat.le_of_ble_eq_true rfl)⟩ dX12_clauseHere_91 (fun H locs hW hS => ?_)
        refine W.eq (g2 := F0 m 94 ls [.int r16]) rfl ?_
        refine lv_istore_n (lv' := [(1, .int r16), (0, .ref (G.2.2.2 + o))]) hx hb dX12_clauseHere_94 rfl hl (by decide) rfl (fun ls hl => ?_)
        refine lv_aload_n hx hb dX12_clauseHere_95 rfl (lv_at hl 1 rfl) ?_
        refine lv_bipush (v := (nI 32)) hx hb dX12_clauseHere_96 (by decide) ?_
        obtain ⟨t17, h⟩ := zc_at h
        obtain ⟨st19, c18, h⟩ := zd_at h
        refine z_cV hx hb hq hml hown hK hW hS 12 [.int ((nI 32))] [] rfl (List.mem_singleton.mp t17) (c_X12_must l G st15 o (nI 32) c18) (zi zm304) (zi zm305) (zi zm306) (zi zm5) (zi zm307) cal_X12_must rfl rfl hl.1 rfl (Nat.le_of_ble_eq_true rfl) (zR_ok (by omega) (by decide)) ⟨(Nat.le_of_ble_eq_true rfl), (Nat.le_of_ble_eq_true rfl)⟩ dX12_clauseHere_98 (fun H locs hW hS => ?_)
        refine W.eq (g2 := F0 m 101 ls []) rfl ?_
        refine lv_aload_n hx hb dX12_clauseHere_101 rfl (lv_at hl 1 rfl) ?_
        obtain ⟨t20, h⟩ := zc_at h
        obtain ⟨st22, c21, h⟩ := zd_at h
        refine z_cV hx hb hq hml hown hK hW hS 12 [] [] rfl (List.mem_singleton.mp t20) (cg_X12_some l G N 25 st19 o c21) (zi zm312) (zi zm313) (zi zm314) (zi zm5) (zi zm315) cal_X12_some rfl rfl hl.1 rfl (Nat.le_of_ble_eq_true rfl) (zR_ok (by omega) (by decide)) ⟨(Nat.le_of_ble_eq_true rfl), (Nat.le_of_ble_eq_true rfl)⟩ dX12_clauseHere_102 (fun H locs hW hS => ?_)
        refine W.eq (g2 := F0 m 105 ls []) rfl ?_
        refine lv_aload_n hx hb dX12_clauseHere_105 rfl (lv_at hl 1 rfl) ?_
        refine lv_bipush (v := (-10)) hx hb dX12_clauseHere_106 (by decide) ?_
        refine lv_iload_n hx hb dX12_clauseHere_108 rfl (lv_at hl 0 rfl) ?_
        refine lv_isub hx hb dX12_clauseHere_109 ?_
        obtain ⟨t23, h⟩ := zc_at h
        obtain ⟨st25, c24, h⟩ := zd_at h
        refine z_cV hx hb hq hml hown hK hW hS 12 [.int (((-10 : Int32) - r16))] [] rfl (List.mem_singleton.mp t23) (c_X12_emits l G st22 o ((-10 : Int32) - r16) c24) (zi zm319) (zi zm320) (zi zm321) (zi zm5) (zi zm322) cal_X12_emits rfl rfl hl.1 rfl (Nat.le_of_ble_eq_true rfl) (zR_ok (by omega) (by decide)) ⟨(Nat.le_of_ble_eq_true rfl), (Nat.le_of_ble_eq_true rfl)⟩ dX12_clauseHere_110 (fun H locs hW hS => ?_)
        refine W.eq (g2 := F0 m 113 ls []) rfl ?_
        refine lv_goto (tgt := 121) hx hb dX12_clauseHere_113 (by decide) ?_
        obtain rfl := Option.some.inj h
        exact z_rv hx hb hr hlk hW hS (Nat.le_of_ble_eq_true rfl) (Nat.le_of_ble_eq_true rfl) dX12_clauseHere_121
      · rcases zi_at h with ⟨k26, h⟩ | ⟨k26, h⟩
        · refine lv_lookup (off := 44) (tgt := 48) hx hb dX12_clauseHere_4 (by decide) (by rw [k26]; rfl) (by decide) ?_
          refine lv_aload_n hx hb dX12_clauseHere_48 rfl (lv_at hl 0 rfl) ?_
          refine lv_sipush (v := (nI 228)) hx hb dX12_clauseHere_49 (by decide) ?_
          refine va_ldcS hx hb hown (hK.2.2.2.2.2.2.1 6 (by decide)).2 dX12_clauseHere_52 ?_
          obtain ⟨st28, c27, h⟩ := zd_at h
          refine z_cV hx hb hq hml hown hK hW hS 12 [.int ((nI 228)), .ref (G.2.2.1.1 (6))] [] rfl (List.mem_singleton.mp t1) (c_X12_tellsHere l G N st o (nI 228) 6 c27) (zi zm294) (zi zm295) (zi zm296) (zi zm5) (zi zm297) cal_X12_tellsHere rfl rfl hl.1 rfl (Nat.le_of_ble_eq_true rfl) (zR_ok (by omega) (by decide)) ⟨(Nat.le_of_ble_eq_true rfl), (Nat.le_of_ble_eq_true rfl)⟩ dX12_clauseHere_54 (fun H locs hW hS => ?_)
          refine W.eq (g2 := F0 m 57 ls []) rfl ?_
          refine lv_goto (tgt := 121) hx hb dX12_clauseHere_57 (by decide) ?_
          obtain rfl := Option.some.inj h
          exact z_rv hx hb hr hlk hW hS (Nat.le_of_ble_eq_true rfl) (Nat.le_of_ble_eq_true rfl) dX12_clauseHere_121
        · refine lv_lookup (off := 112) (tgt := 116) hx hb dX12_clauseHere_4 (by decide) (by show Op.lookupswitch.offset [(99, 68), (108, 56), (115, 80), (119, 44)] 112 _ = _; rw [lv_osw k4 (by decide), lv_osw k7 (by decide), lv_osw k10 (by decide), lv_osw k26 (by decide)]; rfl) (by decide) ?_
          refine lv_aload_n hx hb dX12_clauseHere_116 rfl (lv_at hl 0 rfl) ?_
          refine lv_iconst (v := (nI 1)) hx hb dX12_clauseHere_117 (by decide) ?_
          refine z_pI hx hb hq hown hK hW hS fp_RX12_48 t1 (fun h => by cases h) rfl rfl dX12_clauseHere_118 (fun H locs hW hS => ?_)
          obtain rfl := Option.some.inj h
          exact z_rv hx hb hr hlk hW hS (Nat.le_of_ble_eq_true rfl) (Nat.le_of_ble_eq_true rfl) dX12_clauseHere_121
def f_X12_school_162 (N : Nat) (o : Nat)  (st : zS) : Option (zS × Int32) := (if zTg st o ∈ [22] then (if (zM st o 7) = 0 then (if (zM st o 5) = (zM st o 6) then (Option.bind (zR st o 1) (fun b16 => (if zTg st b16 ∈ [1] then (if zin (nI 1) (zLn st b16) then (if zin (nI 1) (zLn st b16) then (if zin (nI 7) (zLn (zPM st b16 ((nI 1)).toNatClampNeg ((zM st b16 ((nI 1)).toNatClampNeg) + (nI 1))) b16) then (some ((zPM (zPM st b16 ((nI 1)).toNatClampNeg ((zM st b16 ((nI 1)).toNatClampNeg) + (nI 1))) b16 ((nI 7)).toNatClampNeg (zM (zPM st b16 ((nI 1)).toNatClampNeg ((zM st b16 ((nI 1)).toNatClampNeg) + (nI 1))) o 4)), (zM (zPM (zPM st b16 ((nI 1)).toNatClampNeg ((zM st b16 ((nI 1)).toNatClampNeg) + (nI 1))) b16 ((nI 7)).toNatClampNeg (zM (zPM st b16 ((nI 1)).toNatClampNeg ((zM st b16 ((nI 1)).toNatClampNeg) + (nI 1))) o 4)) o 4))) else none) else none) else none) else none))) else (some (st, ((-10 : Int32) - (zM st o 5))))) else (some (st, ((-10 : Int32) - (zM st o 5))))) else none)
def f_X12_school_120 (N : Nat) (o : Nat)  : Nat → zS → Int32 → Option (zS × Int32)
  | 0, _, _ => none
  | n120 + 1, st, x1 => (if zTg st o ∈ [22] then (if (zM st o 7) = 0 then (if (nI 10) ≤ x1 then (f_X12_school_162 N o st) else (Option.bind (f_X12_here st o) (fun r22 => (if r22 = (nI 59) then (Option.bind (f_X12_clauseHere N (zPM st o 5 ((zM st o 5) + (nI 1))) o) (fun st24 => ((f_X12_school_120 N o n120) st24 (x1 + (nI 1))))) else (f_X12_school_162 N o st))))) else (f_X12_school_162 N o st)) else none)
def f_X12_school (N : Nat) (st : zS) (o : Nat) : Option (zS × Int32) := (if zTg st o ∈ [22] then (Option.bind (zR st o 1) (fun b2 => (if zTg st b2 ∈ [1] then (if zin (nI 1) (zLn st b2) then (if (zM st b2 ((nI 1)).toNatClampNeg) = (nI 5) then (some (st, (-4 : Int32))) else (if zin (nI 1) (zLn st b2) then (if zin (nI 6) (zLn (zPM st o 4 (zM st b2 ((nI 1)).toNatClampNeg)) b2) then (if zin (nI 6) (zLn (zPM (zPM st o 4 (zM st b2 ((nI 1)).toNatClampNeg)) o 6 (zM (zPM st o 4 (zM st b2 ((nI 1)).toNatClampNeg)) b2 ((nI 6)).toNatClampNeg)) b2) then (if zin ((nI 228) + (zM (zPM (zPM (zPM st o 4 (zM st b2 ((nI 1)).toNatClampNeg)) o 6 (zM (zPM st o 4 (zM st b2 ((nI 1)).toNatClampNeg)) b2 ((nI 6)).toNatClampNeg)) b2 ((nI 6)).toNatClampNeg (nI 0)) o 4)) (zLn (zPM (zPM (zPM st o 4 (zM st b2 ((nI 1)).toNatClampNeg)) o 6 (zM (zPM st o 4 (zM st b2 ((nI 1)).toNatClampNeg)) b2 ((nI 6)).toNatClampNeg)) b2 ((nI 6)).toNatClampNeg (nI 0)) b2) then (if zin ((nI 233) + (zM (zPM (zPM (zPM (zPM st o 4 (zM st b2 ((nI 1)).toNatClampNeg)) o 6 (zM (zPM st o 4 (zM st b2 ((nI 1)).toNatClampNeg)) b2 ((nI 6)).toNatClampNeg)) b2 ((nI 6)).toNatClampNeg (nI 0)) b2 (((nI 228) + (zM (zPM (zPM (zPM st o 4 (zM st b2 ((nI 1)).toNatClampNeg)) o 6 (zM (zPM st o 4 (zM st b2 ((nI 1)).toNatClampNeg)) b2 ((nI 6)).toNatClampNeg)) b2 ((nI 6)).toNatClampNeg (nI 0)) o 4))).toNatClampNeg (nI 20)) o 4)) (zLn (zPM (zPM (zPM (zPM st o 4 (zM st b2 ((nI 1)).toNatClampNeg)) o 6 (zM (zPM st o 4 (zM st b2 ((nI 1)).toNatClampNeg)) b2 ((nI 6)).toNatClampNeg)) b2 ((nI 6)).toNatClampNeg (nI 0)) b2 (((nI 228) + (zM (zPM (zPM (zPM st o 4 (zM st b2 ((nI 1)).toNatClampNeg)) o 6 (zM (zPM st o 4 (zM st b2 ((nI 1)).toNatClampNeg)) b2 ((nI 6)).toNatClampNeg)) b2 ((nI 6)).toNatClampNeg (nI 0)) o 4))).toNatClampNeg (nI 20)) b2) then (if zin ((nI 238) + (zM (zPM (zPM (zPM (zPM (zPM st o 4 (zM st b2 ((nI 1)).toNatClampNeg)) o 6 (zM (zPM st o 4 (zM st b2 ((nI 1)).toNatClampNeg)) b2 ((nI 6)).toNatClampNeg)) b2 ((nI 6)).toNatClampNeg (nI 0)) b2 (((nI 228) + (zM (zPM (zPM (zPM st o 4 (zM st b2 ((nI 1)).toNatClampNeg)) o 6 (zM (zPM st o 4 (zM st b2 ((nI 1)).toNatClampNeg)) b2 ((nI 6)).toNatClampNeg)) b2 ((nI 6)).toNatClampNeg (nI 0)) o 4))).toNatClampNeg (nI 20)) b2 (((nI 233) + (zM (zPM (zPM (zPM (zPM st o 4 (zM st b2 ((nI 1)).toNatClampNeg)) o 6 (zM (zPM st o 4 (zM st b2 ((nI 1)).toNatClampNeg)) b2 ((nI 6)).toNatClampNeg)) b2 ((nI 6)).toNatClampNeg (nI 0)) b2 (((nI 228) + (zM (zPM (zPM (zPM st o 4 (zM st b2 ((nI 1)).toNatClampNeg)) o 6 (zM (zPM st o 4 (zM st b2 ((nI 1)).toNatClampNeg)) b2 ((nI 6)).toNatClampNeg)) b2 ((nI 6)).toNatClampNeg (nI 0)) o 4))).toNatClampNeg (nI 20)) o 4))).toNatClampNeg (nI 3)) o 4)) (zLn (zPM (zPM (zPM (zPM (zPM st o 4 (zM st b2 ((nI 1)).toNatClampNeg)) o 6 (zM (zPM st o 4 (zM st b2 ((nI 1)).toNatClampNeg)) b2 ((nI 6)).toNatClampNeg)) b2 ((nI 6)).toNatClampNeg (nI 0)) b2 (((nI 228) + (zM (zPM (zPM (zPM st o 4 (zM st b2 ((nI 1)).toNatClampNeg)) o 6 (zM (zPM st o 4 (zM st b2 ((nI 1)).toNatClampNeg)) b2 ((nI 6)).toNatClampNeg)) b2 ((nI 6)).toNatClampNeg (nI 0)) o 4))).toNatClampNeg (nI 20)) b2 (((nI 233) + (zM (zPM (zPM (zPM (zPM st o 4 (zM st b2 ((nI 1)).toNatClampNeg)) o 6 (zM (zPM st o 4 (zM st b2 ((nI 1)).toNatClampNeg)) b2 ((nI 6)).toNatClampNeg)) b2 ((nI 6)).toNatClampNeg (nI 0)) b2 (((nI 228) + (zM (zPM (zPM (zPM st o 4 (zM st b2 ((nI 1)).toNatClampNeg)) o 6 (zM (zPM st o 4 (zM st b2 ((nI 1)).toNatClampNeg)) b2 ((nI 6)).toNatClampNeg)) b2 ((nI 6)).toNatClampNeg (nI 0)) o 4))).toNatClampNeg (nI 20)) o 4))).toNatClampNeg (nI 3)) b2) then (if zin ((nI 243) + (zM (zPM (zPM (zPM (zPM (zPM (zPM st o 4 (zM st b2 ((nI 1)).toNatClampNeg)) o 6 (zM (zPM st o 4 (zM st b2 ((nI 1)).toNatClampNeg)) b2 ((nI 6)).toNatClampNeg)) b2 ((nI 6)).toNatClampNeg (nI 0)) b2 (((nI 228) + (zM (zPM (zPM (zPM st o 4 (zM st b2 ((nI 1)).toNatClampNeg)) o 6 (zM (zPM st o 4 (zM st b2 ((nI 1)).toNatClampNeg)) b2 ((nI 6)).toNatClampNeg)) b2 ((nI 6)).toNatClampNeg (nI 0)) o 4))).toNatClampNeg (nI 20)) b2 (((nI 233) + (zM (zPM (zPM (zPM (zPM st o 4 (zM st b2 ((nI 1)).toNatClampNeg)) o 6 (zM (zPM st o 4 (zM st b2 ((nI 1)).toNatClampNeg)) b2 ((nI 6)).toNatClampNeg)) b2 ((nI 6)).toNatClampNeg (nI 0)) b2 (((nI 228) + (zM (zPM (zPM (zPM st o 4 (zM st b2 ((nI 1)).toNatClampNeg)) o 6 (zM (zPM st o 4 (zM st b2 ((nI 1)).toNatClampNeg)) b2 ((nI 6)).toNatClampNeg)) b2 ((nI 6)).toNatClampNeg (nI 0)) o 4))).toNatClampNeg (nI 20)) o 4))).toNatClampNeg (nI 3)) b2 (((nI 238) + (zM (zPM (zPM (zPM (zPM (zPM st o 4 (zM st b2 ((nI 1)).toNatClampNeg)) o 6 (zM (zPM st o 4 (zM st b2 ((nI 1)).toNatClampNeg)) b2 ((nI 6)).toNatClampNeg)) b2 ((nI 6)).toNatClampNeg (nI 0)) b2 (((nI 228) + (zM (zPM (zPM (zPM st o 4 (zM st b2 ((nI 1)).toNatClampNeg)) o 6 (zM (zPM st o 4 (zM st b2 ((nI 1)).toNatClampNeg)) b2 ((nI 6)).toNatClampNeg)) b2 ((nI 6)).toNatClampNeg (nI 0)) o 4))).toNatClampNeg (nI 20)) b2 (((nI 233) + (zM (zPM (zPM (zPM (zPM st o 4 (zM st b2 ((nI 1)).toNatClampNeg)) o 6 (zM (zPM st o 4 (zM st b2 ((nI 1)).toNatClampNeg)) b2 ((nI 6)).toNatClampNeg)) b2 ((nI 6)).toNatClampNeg (nI 0)) b2 (((nI 228) + (zM (zPM (zPM (zPM st o 4 (zM st b2 ((nI 1)).toNatClampNeg)) o 6 (zM (zPM st o 4 (zM st b2 ((nI 1)).toNatClampNeg)) b2 ((nI 6)).toNatClampNeg)) b2 ((nI 6)).toNatClampNeg (nI 0)) o 4))).toNatClampNeg (nI 20)) o 4))).toNatClampNeg (nI 3)) o 4))).toNatClampNeg (nI 0)) o 4)) (zLn (zPM (zPM (zPM (zPM (zPM (zPM st o 4 (zM st b2 ((nI 1)).toNatClampNeg)) o 6 (zM (zPM st o 4 (zM st b2 ((nI 1)).toNatClampNeg)) b2 ((nI 6)).toNatClampNeg)) b2 ((nI 6)).toNatClampNeg (nI 0)) b2 (((nI 228) + (zM (zPM (zPM (zPM st o 4 (zM st b2 ((nI 1)).toNatClampNeg)) o 6 (zM (zPM st o 4 (zM st b2 ((nI 1)).toNatClampNeg)) b2 ((nI 6)).toNatClampNeg)) b2 ((nI 6)).toNatClampNeg (nI 0)) o 4))).toNatClampNeg (nI 20)) b2 (((nI 233) + (zM (zPM (zPM (zPM (zPM st o 4 (zM st b2 ((nI 1)).toNatClampNeg)) o 6 (zM (zPM st o 4 (zM st b2 ((nI 1)).toNatClampNeg)) b2 ((nI 6)).toNatClampNeg)) b2 ((nI 6)).toNatClampNeg (nI 0)) b2 (((nI 228) + (zM (zPM (zPM (zPM st o 4 (zM st b2 ((nI 1)).toNatClampNeg)) o 6 (zM (zPM st o 4 (zM st b2 ((nI 1)).toNatClampNeg)) b2 ((nI 6)).toNatClampNeg)) b2 ((nI 6)).toNatClampNeg (nI 0)) o 4))).toNatClampNeg (nI 20)) o 4))).toNatClampNeg (nI 3)) b2 (((nI 238) + (zM (zPM (zPM (zPM (zPM (zPM st o 4 (zM st b2 ((nI 1)).toNatClampNeg)) o 6 (zM (zPM st o 4 (zM st b2 ((nI 1)).toNatClampNeg)) b2 ((nI 6)).toNatClampNeg)) b2 ((nI 6)).toNatClampNeg (nI 0)) b2 (((nI 228) + (zM (zPM (zPM (zPM st o 4 (zM st b2 ((nI 1)).toNatClampNeg)) o 6 (zM (zPM st o 4 (zM st b2 ((nI 1)).toNatClampNeg)) b2 ((nI 6)).toNatClampNeg)) b2 ((nI 6)).toNatClampNeg (nI 0)) o 4))).toNatClampNeg (nI 20)) b2 (((nI 233) + (zM (zPM (zPM (zPM (zPM st o 4 (zM st b2 ((nI 1)).toNatClampNeg)) o 6 (zM (zPM st o 4 (zM st b2 ((nI 1)).toNatClampNeg)) b2 ((nI 6)).toNatClampNeg)) b2 ((nI 6)).toNatClampNeg (nI 0)) b2 (((nI 228) + (zM (zPM (zPM (zPM st o 4 (zM st b2 ((nI 1)).toNatClampNeg)) o 6 (zM (zPM st o 4 (zM st b2 ((nI 1)).toNatClampNeg)) b2 ((nI 6)).toNatClampNeg)) b2 ((nI 6)).toNatClampNeg (nI 0)) o 4))).toNatClampNeg (nI 20)) o 4))).toNatClampNeg (nI 3)) o 4))).toNatClampNeg (nI 0)) b2) then (Option.bind (f_X12_clauseHere N (zPM (zPM (zPM (zPM (zPM (zPM (zPM (zPM (zPM (zPM st o 4 (zM st b2 ((nI 1)).toNatClampNeg)) o 6 (zM (zPM st o 4 (zM st b2 ((nI 1)).toNatClampNeg)) b2 ((nI 6)).toNatClampNeg)) b2 ((nI 6)).toNatClampNeg (nI 0)) b2 (((nI 228) + (zM (zPM (zPM (zPM st o 4 (zM st b2 ((nI 1)).toNatClampNeg)) o 6 (zM (zPM st o 4 (zM st b2 ((nI 1)).toNatClampNeg)) b2 ((nI 6)).toNatClampNeg)) b2 ((nI 6)).toNatClampNeg (nI 0)) o 4))).toNatClampNeg (nI 20)) b2 (((nI 233) + (zM (zPM (zPM (zPM (zPM st o 4 (zM st b2 ((nI 1)).toNatClampNeg)) o 6 (zM (zPM st o 4 (zM st b2 ((nI 1)).toNatClampNeg)) b2 ((nI 6)).toNatClampNeg)) b2 ((nI 6)).toNatClampNeg (nI 0)) b2 (((nI 228) + (zM (zPM (zPM (zPM st o 4 (zM st b2 ((nI 1)).toNatClampNeg)) o 6 (zM (zPM st o 4 (zM st b2 ((nI 1)).toNatClampNeg)) b2 ((nI 6)).toNatClampNeg)) b2 ((nI 6)).toNatClampNeg (nI 0)) o 4))).toNatClampNeg (nI 20)) o 4))).toNatClampNeg (nI 3)) b2 (((nI 238) + (zM (zPM (zPM (zPM (zPM (zPM st o 4 (zM st b2 ((nI 1)).toNatClampNeg)) o 6 (zM (zPM st o 4 (zM st b2 ((nI 1)).toNatClampNeg)) b2 ((nI 6)).toNatClampNeg)) b2 ((nI 6)).toNatClampNeg (nI 0)) b2 (((nI 228) + (zM (zPM (zPM (zPM st o 4 (zM st b2 ((nI 1)).toNatClampNeg)) o 6 (zM (zPM st o 4 (zM st b2 ((nI 1)).toNatClampNeg)) b2 ((nI 6)).toNatClampNeg)) b2 ((nI 6)).toNatClampNeg (nI 0)) o 4))).toNatClampNeg (nI 20)) b2 (((nI 233) + (zM (zPM (zPM (zPM (zPM st o 4 (zM st b2 ((nI 1)).toNatClampNeg)) o 6 (zM (zPM st o 4 (zM st b2 ((nI 1)).toNatClampNeg)) b2 ((nI 6)).toNatClampNeg)) b2 ((nI 6)).toNatClampNeg (nI 0)) b2 (((nI 228) + (zM (zPM (zPM (zPM st o 4 (zM st b2 ((nI 1)).toNatClampNeg)) o 6 (zM (zPM st o 4 (zM st b2 ((nI 1)).toNatClampNeg)) b2 ((nI 6)).toNatClampNeg)) b2 ((nI 6)).toNatClampNeg (nI 0)) o 4))).toNatClampNeg (nI 20)) o 4))).toNatClampNeg (nI 3)) o 4))).toNatClampNeg (nI 0)) b2 (((nI 243) + (zM (zPM (zPM (zPM (zPM (zPM (zPM st o 4 (zM st b2 ((nI 1)).toNatClampNeg)) o 6 (zM (zPM st o 4 (zM st b2 ((nI 1)).toNatClampNeg)) b2 ((nI 6)).toNatClampNeg)) b2 ((nI 6)).toNatClampNeg (nI 0)) b2 (((nI 228) + (zM (zPM (zPM (zPM st o 4 (zM st b2 ((nI 1)).toNatClampNeg)) o 6 (zM (zPM st o 4 (zM st b2 ((nI 1)).toNatClampNeg)) b2 ((nI 6)).toNatClampNeg)) b2 ((nI 6)).toNatClampNeg (nI 0)) o 4))).toNatClampNeg (nI 20)) b2 (((nI 233) + (zM (zPM (zPM (zPM (zPM st o 4 (zM st b2 ((nI 1)).toNatClampNeg)) o 6 (zM (zPM st o 4 (zM st b2 ((nI 1)).toNatClampNeg)) b2 ((nI 6)).toNatClampNeg)) b2 ((nI 6)).toNatClampNeg (nI 0)) b2 (((nI 228) + (zM (zPM (zPM (zPM st o 4 (zM st b2 ((nI 1)).toNatClampNeg)) o 6 (zM (zPM st o 4 (zM st b2 ((nI 1)).toNatClampNeg)) b2 ((nI 6)).toNatClampNeg)) b2 ((nI 6)).toNatClampNeg (nI 0)) o 4))).toNatClampNeg (nI 20)) o 4))).toNatClampNeg (nI 3)) b2 (((nI 238) + (zM (zPM (zPM (zPM (zPM (zPM st o 4 (zM st b2 ((nI 1)).toNatClampNeg)) o 6 (zM (zPM st o 4 (zM st b2 ((nI 1)).toNatClampNeg)) b2 ((nI 6)).toNatClampNeg)) b2 ((nI 6)).toNatClampNeg (nI 0)) b2 (((nI 228) + (zM (zPM (zPM (zPM st o 4 (zM st b2 ((nI 1)).toNatClampNeg)) o 6 (zM (zPM st o 4 (zM st b2 ((nI 1)).toNatClampNeg)) b2 ((nI 6)).toNatClampNeg)) b2 ((nI 6)).toNatClampNeg (nI 0)) o 4))).toNatClampNeg (nI 20)) b2 (((nI 233) + (zM (zPM (zPM (zPM (zPM st o 4 (zM st b2 ((nI 1)).toNatClampNeg)) o 6 (zM (zPM st o 4 (zM st b2 ((nI 1)).toNatClampNeg)) b2 ((nI 6)).toNatClampNeg)) b2 ((nI 6)).toNatClampNeg (nI 0)) b2 (((nI 228) + (zM (zPM (zPM (zPM st o 4 (zM st b2 ((nI 1)).toNatClampNeg)) o 6 (zM (zPM st o 4 (zM st b2 ((nI 1)).toNatClampNeg)) b2 ((nI 6)).toNatClampNeg)) b2 ((nI 6)).toNatClampNeg (nI 0)) o 4))).toNatClampNeg (nI 20)) o 4))).toNatClampNeg (nI 3)) o 4))).toNatClampNeg (nI 0)) o 4))).toNatClampNeg (nI 0)) o 5 (nI 0)) o 7 (nI 0)) o 8 (nI 0)) o) (fun st13 => (f_X12_school_120 N o N st13 (nI 1)))) else none) else none) else none) else none) else none) else none) else none)) else none) else none))) else none)
set_option maxHeartbeats 1000000 in
set_option maxRecDepth 100000 in
theorem c_X12_school (l : Launch) (G : zG) (N : Nat) (st : zS) (o : Nat) {st' : zS} {r : Int32} (h : f_X12_school N st o = some (st', r)) : zMet l G yX12_school cX12_school 2 (some .int) 33 0 0 [.ref (G.2.2.2 + o)] st (some (.int r)) st' := by
  refine zMet_of (by decide +kernel) ?_
  intro p e s m args below meth c X
  obtain ⟨hx, hb, hr, hml, hown, hq, hlk, hK, -, hin, hW, hS⟩ := X
  have hown : s.vm.findClass RX12 = some m.cls := hown
  refine z_ent (by exact Nat.le_of_ble_eq_true rfl) (fun ls hl => ?_)
  have hl : lv_has ls 2 [(0, .ref (G.2.2.2 + o))] := hl
  unfold f_X12_school at h
  have B162 : ∀ (st : zS) (H : Heap) (locs : List Loc) (ls : Array Slot), f_X12_school_162 N o st = some (st', r) → zWd G st H → va_S (zA G) s.heap H locs → lv_has ls 2 [(0, .ref (G.2.2.2 + o))] → W p l e (zRm 33 0 0) s m args below meth c H locs 0 0 (MQ below (zQ G (some (.int r)) st') args s 0 0 (zA G)) (F0 m 162 ls []) := by
    intro st H locs ls h hW hS hl
    unfold f_X12_school_162 at h
    refine lv_aload_n hx hb dX12_school_162 rfl (lv_at hl 0 rfl) ?_
    obtain ⟨t15, h⟩ := zc_at h
    refine z_gI hx hb hq hown hK hW fs_RX12_48 t15 dX12_school_163 ?_
    refine z_brn (lv_if_ne (tgt := 180) hx hb dX12_school_166 (by decide)) h (fun h => ?_) (fun h => ?_)
    · refine lv_bipush (v := (-10)) hx hb dX12_school_180 (by decide) ?_
      refine lv_aload_n hx hb dX12_school_182 rfl (lv_at hl 0 rfl) ?_
      refine z_gI hx hb hq hown hK hW fs_RX12_42 t15 dX12_school_183 ?_
      refine lv_isub hx hb dX12_school_186 ?_
      obtain ⟨rfl, rfl⟩ := Prod.mk.inj (Option.some.inj h)
      exact z_ri hx hb hr hlk hW hS (Nat.le_of_ble_eq_true rfl) (Nat.le_of_ble_eq_true rfl) dX12_school_187
    · refine lv_aload_n hx hb dX12_school_169 rfl (lv_at hl 0 rfl) ?_
      refine z_gI hx hb hq hown hK hW fs_RX12_42 t15 dX12_school_170 ?_
      refine lv_aload_n hx hb dX12_school_173 rfl (lv_at hl 0 rfl) ?_
      refine z_gI hx hb hq hown hK hW fs_RX12_45 t15 dX12_school_174 ?_
      refine z_br (lv_icmp_eq (tgt := 188) hx hb dX12_school_177 (by decide)) h (fun h => ?_) (fun h => ?_)
      · refine lv_aload_n hx hb dX12_school_188 rfl (lv_at hl 0 rfl) ?_
        obtain ⟨b16, hb16, h⟩ := zd_at h
        refine z_gR hx hb hq hown hK hW fs_RX12_9 t15 hb16 dX12_school_189 ?_
        refine lv_iconst (v := (nI 1)) hx hb dX12_school_192 (by decide) ?_
        refine lv_dup2_11 hx hb dX12_school_193 rfl rfl ?_
        obtain ⟨t17, h⟩ := zc_at h
        obtain ⟨t18, h⟩ := zc_at h
        refine z_alI hx hb hK hW (List.mem_singleton.mp t17) t18 dX12_school_194 ?_
        refine lv_iconst (v := (nI 1)) hx hb dX12_school_195 (by decide) ?_
        refine lv_iadd hx hb dX12_school_196 ?_
        obtain ⟨t19, h⟩ := zc_at h
        refine z_asI hx hb hK hW hS (List.mem_singleton.mp t17) t19 dX12_school_197 (fun H locs hW hS => ?_)
        refine lv_aload_n hx hb dX12_school_198 rfl (lv_at hl 0 rfl) ?_
        refine z_gR hx hb hq hown hK hW fs_RX12_9 t15 hb16 dX12_school_199 ?_
        refine lv_bipush (v := (nI 7)) hx hb dX12_school_202 (by decide) ?_
        refine lv_aload_n hx hb dX12_school_204 rfl (lv_at hl 0 rfl) ?_
        refine z_gI hx hb hq hown hK hW fs_RX12_69 t15 dX12_school_205 ?_
        obtain ⟨t20, h⟩ := zc_at h
        refine z_asI hx hb hK hW hS (List.mem_singleton.mp t17) t20 dX12_school_208 (fun H locs hW hS => ?_)
        refine lv_aload_n hx hb dX12_school_209 rfl (lv_at hl 0 rfl) ?_
        refine z_gI hx hb hq hown hK hW fs_RX12_69 t15 dX12_school_210 ?_
        obtain ⟨rfl, rfl⟩ := Prod.mk.inj (Option.some.inj h)
        exact z_ri hx hb hr hlk hW hS (Nat.le_of_ble_eq_true rfl) (Nat.le_of_ble_eq_true rfl) dX12_school_213
      · refine lv_bipush (v := (-10)) hx hb dX12_school_180 (by decide) ?_
        refine lv_aload_n hx hb dX12_school_182 rfl (lv_at hl 0 rfl) ?_
        refine z_gI hx hb hq hown hK hW fs_RX12_42 t15 dX12_school_183 ?_
        refine lv_isub hx hb dX12_school_186 ?_
        obtain ⟨rfl, rfl⟩ := Prod.mk.inj (Option.some.inj h)
        exact z_ri hx hb hr hlk hW hS (Nat.le_of_ble_eq_true rfl) (Nat.le_of_ble_eq_true rfl) dX12_school_187
  have B120 : ∀ (n120 : Nat) (st : zS) (x1 : Int32) (H : Heap) (locs : List Loc) (ls : Array Slot), f_X12_school_120 N o n120 st x1 = some (st', r) → zWd G st H → va_S (zA G) s.heap H locs → lv_has ls 2 [(0, .ref (G.2.2.2 + o)), (1, .int x1)] → W p l e (zRm 33 0 0) s m args below meth c H locs 0 0 (MQ below (zQ G (some (.int r)) st') args s 0 0 (zA G)) (F0 m 120 ls []) := by
    intro n120
    induction n120 with
    | zero =>
      intro st x1 H locs ls h
      unfold f_X12_school_120 at h
      cases h
    | succ n120 ih120 =>
      intro st x1 H locs ls h hW hS hl
      unfold f_X12_school_120 at h
      refine lv_aload_n hx hb dX12_school_120 rfl (lv_at hl 0 rfl) ?_
      obtain ⟨t14, h⟩ := zc_at h
      refine z_gI hx hb hq hown hK hW fs_RX12_48 t14 dX12_school_121 ?_
      refine z_brn (lv_if_ne (tgt := 162) hx hb dX12_school_124 (by decide)) h (fun h => ?_) (fun h => ?_)
      · exact B162 st _ _ _ h hW hS (lv_sub hl [0] rfl)
      · refine lv_iload_n hx hb dX12_school_127 rfl (lv_at hl 1 rfl) ?_
        refine lv_bipush (v := (nI 10)) hx hb dX12_school_128 (by decide) ?_
        refine z_br (lv_icmp_ge (tgt := 162) hx hb dX12_school_130 (by decide)) h (fun h => ?_) (fun h => ?_)
        · exact B162 st _ _ _ h hW hS (lv_sub hl [0] rfl)
        · refine lv_aload_n hx hb dX12_school_133 rfl (lv_at hl 0 rfl) ?_
          obtain ⟨r22, c21, h⟩ := zd_at h
          refine z_cV hx hb hq hml hown hK hW hS 12 [] [] rfl (List.mem_singleton.mp t14) (c_X12_here l G st o c21) (zi zm290) (zi zm291) (zi zm292) (zi zm5) (zi zm293) cal_X12_here rfl rfl hl.1 rfl (Nat.le_of_ble_eq_true rfl) (zR_ok (by omega) (by decide)) ⟨(Nat.le_of_ble_eq_true rfl), (Nat.le_of_ble_eq_true rfl)⟩ dX12_school_134 (fun H locs hW hS => ?_)
          refine W.eq (g2 := F0 m 137 ls [.int r22]) rfl ?_
          refine lv_bipush (v := (nI 59)) hx hb dX12_school_137 (by decide) ?_
          refine z_brn (lv_icmp_ne (tgt := 162) hx hb dX12_school_139 (by decide)) h (fun h => ?_) (fun h => ?_)
          · exact B162 st _ _ _ h hW hS (lv_sub hl [0] rfl)
          · refine lv_aload_n hx hb dX12_school_142 rfl (lv_at hl 0 rfl) ?_
            refine lv_dup hx hb dX12_school_143 rfl ?_
            refine z_gI hx hb hq hown hK hW fs_RX12_42 t14 dX12_school_144 ?_
            refine lv_iconst (v := (nI 1)) hx hb dX12_school_147 (by decide) ?_
            refine lv_iadd hx hb dX12_school_148 ?_
            refine z_pI hx hb hq hown hK hW hS fp_RX12_42 t14 (fun h => by cases h) rfl rfl dX12_school_149 (fun H locs hW hS => ?_)
            refine lv_aload_n hx hb dX12_school_152 rfl (lv_at hl 0 rfl) ?_
            obtain ⟨st24, c23, h⟩ := zd_at h
            refine z_cV hx hb hq hml hown hK hW hS 12 [] [] rfl (List.mem_singleton.mp t14) (c_X12_clauseHere l G N (zPM st o 5 ((zM st o 5) + (nI 1))) o c23) (zi zm286) (zi zm287) (zi zm288) (zi zm5) (zi zm289) cal_X12_clauseHere rfl rfl hl.1 rfl (Nat.le_of_ble_eq_true rfl) (zR_ok (by omega) (by decide)) ⟨(Nat.le_of_ble_eq_true rfl), (Nat.le_of_ble_eq_true rfl)⟩ dX12_school_153 (fun H locs hW hS => ?_)
            refine W.eq (g2 := F0 m 156 ls []) rfl ?_
            refine lv_iinc (v := (x1 + (nI 1))) (lv' := [(1, .int ((x1 + (nI 1)))), (0, .ref (G.2.2.2 + o))]) hx hb dX12_school_156 hl (k := 1) rfl rfl (by decide) rfl (fun ls hl => ?_)
            refine lv_goto (tgt := 120) hx hb dX12_school_159 (by decide) ?_
            exact ih120 st24 (x1 + (nI 1)) _ _ _ h hW hS (lv_sub hl [1, 0] rfl)
  refine lv_aload_n hx hb dX12_school_0 rfl (lv_at hl 0 rfl) ?_
  obtain ⟨t1, h⟩ := zc_at h
  obtain ⟨b2, hb2, h⟩ := zd_at h
  refine z_gR hx hb hq hown hK hW fs_RX12_9 t1 hb2 dX12_school_1 ?_
  refine lv_iconst (v := (nI 1)) hx hb dX12_school_4 (by decide) ?_
  obtain ⟨t3, h⟩ := zc_at h
  obtain ⟨t4, h⟩ := zc_at h
  refine z_alI hx hb hK hW (List.mem_singleton.mp t3) t4 dX12_school_5 ?_
  refine lv_iconst (v := (nI 5)) hx hb dX12_school_6 (by decide) ?_
  refine z_brn (lv_icmp_ne (tgt := 13) hx hb dX12_school_7 (by decide)) h (fun h => ?_) (fun h => ?_)
  · refine lv_aload_n hx hb dX12_school_13 rfl (lv_at hl 0 rfl) ?_
    refine lv_aload_n hx hb dX12_school_14 rfl (lv_at hl 0 rfl) ?_
    refine z_gR hx hb hq hown hK hW fs_RX12_9 t1 hb2 dX12_school_15 ?_
    refine lv_iconst (v := (nI 1)) hx hb dX12_school_18 (by decide) ?_
    obtain ⟨t5, h⟩ := zc_at h
    refine z_alI hx hb hK hW (List.mem_singleton.mp t3) t5 dX12_school_19 ?_
    refine z_pI hx hb hq hown hK hW hS fp_RX12_69 t1 (fun h => by cases h) rfl rfl dX12_school_20 (fun H locs hW hS => ?_)
    refine lv_aload_n hx hb dX12_school_23 rfl (lv_at hl 0 rfl) ?_
    refine lv_aload_n hx hb dX12_school_24 rfl (lv_at hl 0 rfl) ?_
    refine z_gR hx hb hq hown hK hW fs_RX12_9 t1 hb2 dX12_school_25 ?_
    refine lv_bipush (v := (nI 6)) hx hb dX12_school_28 (by decide) ?_
    obtain ⟨t6, h⟩ := zc_at h
    refine z_alI hx hb hK hW (List.mem_singleton.mp t3) t6 dX12_school_30 ?_
    refine z_pI hx hb hq hown hK hW hS fp_RX12_45 t1 (fun h => by cases h) rfl rfl dX12_school_31 (fun H locs hW hS => ?_)
    refine lv_aload_n hx hb dX12_school_34 rfl (lv_at hl 0 rfl) ?_
    refine z_gR hx hb hq hown hK hW fs_RX12_9 t1 hb2 dX12_school_35 ?_
    refine lv_bipush (v := (nI 6)) hx hb dX12_school_38 (by decide) ?_
    refine lv_iconst (v := (nI 0)) hx hb dX12_school_40 (by decide) ?_
    obtain ⟨t7, h⟩ := zc_at h
    refine z_asI hx hb hK hW hS (List.mem_singleton.mp t3) t7 dX12_school_41 (fun H locs hW hS => ?_)
    refine lv_aload_n hx hb dX12_school_42 rfl (lv_at hl 0 rfl) ?_
    refine z_gR hx hb hq hown hK hW fs_RX12_9 t1 hb2 dX12_school_43 ?_
    refine lv_sipush (v := (nI 228)) hx hb dX12_school_46 (by decide) ?_
    refine lv_aload_n hx hb dX12_school_49 rfl (lv_at hl 0 rfl) ?_
    refine z_gI hx hb hq hown hK hW fs_RX12_69 t1 dX12_school_50 ?_
    refine lv_iadd hx hb dX12_school_53 ?_
    refine lv_bipush (v := (nI 20)) hx hb dX12_school_54 (by decide) ?_
    obtain ⟨t8, h⟩ := zc_at h
    refine z_asI hx hb hK hW hS (List.mem_singleton.mp t3) t8 dX12_school_56 (fun H locs hW hS => ?_)
    refine lv_aload_n hx hb dX12_school_57 rfl (lv_at hl 0 rfl) ?_
    refine z_gR hx hb hq hown hK hW fs_RX12_9 t1 hb2 dX12_school_58 ?_
    refine lv_sipush (v := (nI 233)) hx hb dX12_school_61 (by decide) ?_
    refine lv_aload_n hx hb dX12_school_64 rfl (lv_at hl 0 rfl) ?_
    refine z_gI hx hb hq hown hK hW fs_RX12_69 t1 dX12_school_65 ?_
    refine lv_iadd hx hb dX12_school_68 ?_
    refine lv_iconst (v := (nI 3)) hx hb dX12_school_69 (by decide) ?_
    obtain ⟨t9, h⟩ := zc_at h
    refine z_asI hx hb hK hW hS (List.mem_singleton.mp t3) t9 dX12_school_70 (fun H locs hW hS => ?_)
    refine lv_aload_n hx hb dX12_school_71 rfl (lv_at hl 0 rfl) ?_
    refine z_gR hx hb hq hown hK hW fs_RX12_9 t1 hb2 dX12_school_72 ?_
    refine lv_sipush (v := (nI 238)) hx hb dX12_school_75 (by decide) ?_
    refine lv_aload_n hx hb dX12_school_78 rfl (lv_at hl 0 rfl) ?_
    refine z_gI hx hb hq hown hK hW fs_RX12_69 t1 dX12_school_79 ?_
    refine lv_iadd hx hb dX12_school_82 ?_
    refine lv_iconst (v := (nI 0)) hx hb dX12_school_83 (by decide) ?_
    obtain ⟨t10, h⟩ := zc_at h
    refine z_asI hx hb hK hW hS (List.mem_singleton.mp t3) t10 dX12_school_84 (fun H locs hW hS => ?_)
    refine lv_aload_n hx hb dX12_school_85 rfl (lv_at hl 0 rfl) ?_
    refine z_gR hx hb hq hown hK hW fs_RX12_9 t1 hb2 dX12_school_86 ?_
    refine lv_sipush (v := (nI 243)) hx hb dX12_school_89 (by decide) ?_
    refine lv_aload_n hx hb dX12_school_92 rfl (lv_at hl 0 rfl) ?_
    refine z_gI hx hb hq hown hK hW fs_RX12_69 t1 dX12_school_93 ?_
    refine lv_iadd hx hb dX12_school_96 ?_
    refine lv_iconst (v := (nI 0)) hx hb dX12_school_97 (by decide) ?_
    obtain ⟨t11, h⟩ := zc_at h
    refine z_asI hx hb hK hW hS (List.mem_singleton.mp t3) t11 dX12_school_98 (fun H locs hW hS => ?_)
    refine lv_aload_n hx hb dX12_school_99 rfl (lv_at hl 0 rfl) ?_
    refine lv_iconst (v := (nI 0)) hx hb dX12_school_100 (by decide) ?_
    refine z_pI hx hb hq hown hK hW hS fp_RX12_42 t1 (fun h => by cases h) rfl rfl dX12_school_101 (fun H locs hW hS => ?_)
    refine lv_aload_n hx hb dX12_school_104 rfl (lv_at hl 0 rfl) ?_
    refine lv_iconst (v := (nI 0)) hx hb dX12_school_105 (by decide) ?_
    refine z_pI hx hb hq hown hK hW hS fp_RX12_48 t1 (fun h => by cases h) rfl rfl dX12_school_106 (fun H locs hW hS => ?_)
    refine lv_aload_n hx hb dX12_school_109 rfl (lv_at hl 0 rfl) ?_
    refine lv_iconst (v := (nI 0)) hx hb dX12_school_110 (by decide) ?_
    refine z_pI hx hb hq hown hK hW hS fp_RX12_72 t1 (fun h => by cases h) rfl rfl dX12_school_111 (fun H locs hW hS => ?_)
    refine lv_iconst (v := (nI 1)) hx hb dX12_school_114 (by decide) ?_
    refine lv_istore_n (lv' := [(1, .int ((nI 1))), (0, .ref (G.2.2.2 + o))]) hx hb dX12_school_115 rfl hl (by decide) rfl (fun ls hl => ?_)
    refine lv_aload_n hx hb dX12_school_116 rfl (lv_at hl 1 rfl) ?_
    obtain ⟨st13, c12, h⟩ := zd_at h
    refine z_cV hx hb hq hml hown hK hW hS 12 [] [] rfl (List.mem_singleton.mp t1) (c_X12_clauseHere l G N (zPM (zPM (zPM (zPM (zPM (zPM (zPM (zPM (zPM (zPM st o 4 (zM st b2 ((nI 1)).toNatClampNeg)) o 6 (zM (zPM st o 4 (zM st b2 ((nI 1)).toNatClampNeg)) b2 ((nI 6)).toNatClampNeg)) b2 ((nI 6)).toNatClampNeg (nI 0)) b2 (((nI 228) + (zM (zPM (zPM (zPM st o 4 (zM st b2 ((nI 1)).toNatClampNeg)) o 6 (zM (zPM st o 4 (zM st b2 ((nI 1)).toNatClampNeg)) b2 ((nI 6)).toNatClampNeg)) b2 ((nI 6)).toNatClampNeg (nI 0)) o 4))).toNatClampNeg (nI 20)) b2 (((nI 233) + (zM (zPM (zPM (zPM (zPM st o 4 (zM st b2 ((nI 1)).toNatClampNeg)) o 6 (zM (zPM st o 4 (zM st b2 ((nI 1)).toNatClampNeg)) b2 ((nI 6)).toNatClampNeg)) b2 ((nI 6)).toNatClampNeg (nI 0)) b2 (((nI 228) + (zM (zPM (zPM (zPM st o 4 (zM st b2 ((nI 1)).toNatClampNeg)) o 6 (zM (zPM st o 4 (zM st b2 ((nI 1)).toNatClampNeg)) b2 ((nI 6)).toNatClampNeg)) b2 ((nI 6)).toNatClampNeg (nI 0)) o 4))).toNatClampNeg (nI 20)) o 4))).toNatClampNeg (nI 3)) b2 (((nI 238) + (zM (zPM (zPM (zPM (zPM (zPM st o 4 (zM st b2 ((nI 1)).toNatClampNeg)) o 6 (zM (zPM st o 4 (zM st b2 ((nI 1)).toNatClampNeg)) b2 ((nI 6)).toNatClampNeg)) b2 ((nI 6)).toNatClampNeg (nI 0)) b2 (((nI 228) + (zM (zPM (zPM (zPM st o 4 (zM st b2 ((nI 1)).toNatClampNeg)) o 6 (zM (zPM st o 4 (zM st b2 ((nI 1)).toNatClampNeg)) b2 ((nI 6)).toNatClampNeg)) b2 ((nI 6)).toNatClampNeg (nI 0)) o 4))).toNatClampNeg (nI 20)) b2 (((nI 233) + (zM (zPM (zPM (zPM (zPM st o 4 (zM st b2 ((nI 1)).toNatClampNeg)) o 6 (zM (zPM st o 4 (zM st b2 ((nI 1)).toNatClampNeg)) b2 ((nI 6)).toNatClampNeg)) b2 ((nI 6)).toNatClampNeg (nI 0)) b2 (((nI 228) + (zM (zPM (zPM (zPM st o 4 (zM st b2 ((nI 1)).toNatClampNeg)) o 6 (zM (zPM st o 4 (zM st b2 ((nI 1)).toNatClampNeg)) b2 ((nI 6)).toNatClampNeg)) b2 ((nI 6)).toNatClampNeg (nI 0)) o 4))).toNatClampNeg (nI 20)) o 4))).toNatClampNeg (nI 3)) o 4))).toNatClampNeg (nI 0)) b2 (((nI 243) + (zM (zPM (zPM (zPM (zPM (zPM (zPM st o 4 (zM st b2 ((nI 1)).toNatClampNeg)) o 6 (zM (zPM st o 4 (zM st b2 ((nI 1)).toNatClampNeg)) b2 ((nI 6)).toNatClampNeg)) b2 ((nI 6)).toNatClampNeg (nI 0)) b2 (((nI 228) + (zM (zPM (zPM (zPM st o 4 (zM st b2 ((nI 1)).toNatClampNeg)) o 6 (zM (zPM st o 4 (zM st b2 ((nI 1)).toNatClampNeg)) b2 ((nI 6)).toNatClampNeg)) b2 ((nI 6)).toNatClampNeg (nI 0)) o 4))).toNatClampNeg (nI 20)) b2 (((nI 233) + (zM (zPM (zPM (zPM (zPM st o 4 (zM st b2 ((nI 1)).toNatClampNeg)) o 6 (zM (zPM st o 4 (zM st b2 ((nI 1)).toNatClampNeg)) b2 ((nI 6)).toNatClampNeg)) b2 ((nI 6)).toNatClampNeg (nI 0)) b2 (((nI 228) + (zM (zPM (zPM (zPM st o 4 (zM st b2 ((nI 1)).toNatClampNeg)) o 6 (zM (zPM st o 4 (zM st b2 ((nI 1)).toNatClampNeg)) b2 ((nI 6)).toNatClampNeg)) b2 ((nI 6)).toNatClampNeg (nI 0)) o 4))).toNatClampNeg (nI 20)) o 4))).toNatClampNeg (nI 3)) b2 (((nI 238) + (zM (zPM (zPM (zPM (zPM (zPM st o 4 (zM st b2 ((nI 1)).toNatClampNeg)) o 6 (zM (zPM st o 4 (zM st b2 ((nI 1)).toNatClampNeg)) b2 ((nI 6)).toNatClampNeg)) b2 ((nI 6)).toNatClampNeg (nI 0)) b2 (((nI 228) + (zM (zPM (zPM (zPM st o 4 (zM st b2 ((nI 1)).toNatClampNeg)) o 6 (zM (zPM st o 4 (zM st b2 ((nI 1)).toNatClampNeg)) b2 ((nI 6)).toNatClampNeg)) b2 ((nI 6)).toNatClampNeg (nI 0)) o 4))).toNatClampNeg (nI 20)) b2 (((nI 233) + (zM (zPM (zPM (zPM (zPM st o 4 (zM st b2 ((nI 1)).toNatClampNeg)) o 6 (zM (zPM st o 4 (zM st b2 ((nI 1)).toNatClampNeg)) b2 ((nI 6)).toNatClampNeg)) b2 ((nI 6)).toNatClampNeg (nI 0)) b2 (((nI 228) + (zM (zPM (zPM (zPM st o 4 (zM st b2 ((nI 1)).toNatClampNeg)) o 6 (zM (zPM st o 4 (zM st b2 ((nI 1)).toNatClampNeg)) b2 ((nI 6)).toNatClampNeg)) b2 ((nI 6)).toNatClampNeg (nI 0)) o 4))).toNatClampNeg (nI 20)) o 4))).toNatClampNeg (nI 3)) o 4))).toNatClampNeg (nI 0)) o 4))).toNatClampNeg (nI 0)) o 5 (nI 0)) o 7 (nI 0)) o 8 (nI 0)) o c12) (zi zm286) (zi zm287) (zi zm288) (zi zm5) (zi zm289) cal_X12_clauseHere rfl rfl hl.1 rfl (Nat.le_of_ble_eq_true rfl) (zR_ok (by omega) (by decide)) ⟨(Nat.le_of_ble_eq_true rfl), (Nat.le_of_ble_eq_true rfl)⟩ dX12_school_117 (fun H locs hW hS => ?_)
    refine W.eq (g2 := F0 m 120 ls []) rfl ?_
    exact B120 N st13 (nI 1) _ _ _ h hW hS (lv_sub hl [1, 0] rfl)
  · refine lv_bipush (v := (-4)) hx hb dX12_school_10 (by decide) ?_
    obtain ⟨rfl, rfl⟩ := Prod.mk.inj (Option.some.inj h)
    exact z_ri hx hb hr hlk hW hS (Nat.le_of_ble_eq_true rfl) (Nat.le_of_ble_eq_true rfl) dX12_school_12
def f_X12_tellsOf (st : zS) (o : Nat) (a1 : Int32) (a2 : Int32) : Option Int32 := (if zTg st o ∈ [22] then (Option.bind (zR st o 1) (fun b2 => (if zTg st b2 ∈ [1] then (if zin (nI 7) (zLn st b2) then (if (zM st b2 ((nI 7)).toNatClampNeg) = (-1 : Int32) then (some a2) else (if zin (nI 7) (zLn st b2) then (if zin (a1 + (zM st b2 ((nI 7)).toNatClampNeg)) (zLn st b2) then (some (zM st b2 ((a1 + (zM st b2 ((nI 7)).toNatClampNeg))).toNatClampNeg)) else none) else none)) else none) else none))) else none)
set_option maxHeartbeats 1000000 in
set_option maxRecDepth 100000 in
theorem c_X12_tellsOf (l : Launch) (G : zG) (st : zS) (o : Nat) (a1 : Int32) (a2 : Int32) {r : Int32} (h : f_X12_tellsOf st o a1 a2 = some r) : zMet l G yX12_tellsOf cX12_tellsOf 3 (some .int) 0 0 0 [.ref (G.2.2.2 + o), .int a1, .int a2] st (some (.int r)) st := by
  refine zMet_of (by decide +kernel) ?_
  intro p e s m args below meth c X
  obtain ⟨hx, hb, hr, hml, hown, hq, hlk, hK, -, hin, hW, hS⟩ := X
  have hown : s.vm.findClass RX12 = some m.cls := hown
  refine z_ent (by exact Nat.le_of_ble_eq_true rfl) (fun ls hl => ?_)
  have hl : lv_has ls 3 [(0, .ref (G.2.2.2 + o)), (1, .int a1), (2, .int a2)] := hl
  unfold f_X12_tellsOf at h
  refine lv_aload_n hx hb dX12_tellsOf_0 rfl (lv_at hl 0 rfl) ?_
  obtain ⟨t1, h⟩ := zc_at h
  obtain ⟨b2, hb2, h⟩ := zd_at h
  refine z_gR hx hb hq hown hK hW fs_RX12_9 t1 hb2 dX12_tellsOf_1 ?_
  refine lv_bipush (v := (nI 7)) hx hb dX12_tellsOf_4 (by decide) ?_
  obtain ⟨t3, h⟩ := zc_at h
  obtain ⟨t4, h⟩ := zc_at h
  refine z_alI hx hb hK hW (List.mem_singleton.mp t3) t4 dX12_tellsOf_6 ?_
  refine lv_iconst (v := (-1)) hx hb dX12_tellsOf_7 (by decide) ?_
  refine z_brn (lv_icmp_ne (tgt := 15) hx hb dX12_tellsOf_8 (by decide)) h (fun h => ?_) (fun h => ?_)
  · refine lv_aload_n hx hb dX12_tellsOf_15 rfl (lv_at hl 0 rfl) ?_
    refine z_gR hx hb hq hown hK hW fs_RX12_9 t1 hb2 dX12_tellsOf_16 ?_
    refine lv_iload_n hx hb dX12_tellsOf_19 rfl (lv_at hl 1 rfl) ?_
    refine lv_aload_n hx hb dX12_tellsOf_20 rfl (lv_at hl 0 rfl) ?_
    refine z_gR hx hb hq hown hK hW fs_RX12_9 t1 hb2 dX12_tellsOf_21 ?_
    refine lv_bipush (v := (nI 7)) hx hb dX12_tellsOf_24 (by decide) ?_
    obtain ⟨t5, h⟩ := zc_at h
    refine z_alI hx hb hK hW (List.mem_singleton.mp t3) t5 dX12_tellsOf_26 ?_
    refine lv_iadd hx hb dX12_tellsOf_27 ?_
    obtain ⟨t6, h⟩ := zc_at h
    refine z_alI hx hb hK hW (List.mem_singleton.mp t3) t6 dX12_tellsOf_28 ?_
    obtain rfl := Option.some.inj h
    exact z_ri hx hb hr hlk hW hS (Nat.le_of_ble_eq_true rfl) (Nat.le_of_ble_eq_true rfl) dX12_tellsOf_29
  · refine lv_iload_n hx hb dX12_tellsOf_11 rfl (lv_at hl 2 rfl) ?_
    refine lv_goto (tgt := 29) hx hb dX12_tellsOf_12 (by decide) ?_
    obtain rfl := Option.some.inj h
    exact z_ri hx hb hr hlk hW hS (Nat.le_of_ble_eq_true rfl) (Nat.le_of_ble_eq_true rfl) dX12_tellsOf_29
def f_X12_wantNow (st : zS) (o : Nat) : Option Int32 := (if zTg st o ∈ [22] then (Option.bind (f_X12_tellsOf st o (nI 228) (nI 20)) (fun r3 => (Option.bind (f_X12_within r3 (nI 1) (nI 40)) (fun r5 => (some r5))))) else none)
set_option maxHeartbeats 1000000 in
set_option maxRecDepth 100000 in
theorem c_X12_wantNow (l : Launch) (G : zG) (st : zS) (o : Nat) {r : Int32} (h : f_X12_wantNow st o = some r) : zMet l G yX12_wantNow cX12_wantNow 1 (some .int) 1 0 0 [.ref (G.2.2.2 + o)] st (some (.int r)) st := by
  refine zMet_of (by decide +kernel) ?_
  intro p e s m args below meth c X
  obtain ⟨hx, hb, hr, hml, hown, hq, hlk, hK, -, hin, hW, hS⟩ := X
  have hown : s.vm.findClass RX12 = some m.cls := hown
  refine z_ent (by exact Nat.le_of_ble_eq_true rfl) (fun ls hl => ?_)
  have hl : lv_has ls 1 [(0, .ref (G.2.2.2 + o))] := hl
  unfold f_X12_wantNow at h
  refine lv_aload_n hx hb dX12_wantNow_0 rfl (lv_at hl 0 rfl) ?_
  refine lv_sipush (v := (nI 228)) hx hb dX12_wantNow_1 (by decide) ?_
  refine lv_bipush (v := (nI 20)) hx hb dX12_wantNow_4 (by decide) ?_
  obtain ⟨t1, h⟩ := zc_at h
  obtain ⟨r3, c2, h⟩ := zd_at h
  refine z_cV hx hb hq hml hown hK hW hS 12 [.int ((nI 228)), .int ((nI 20))] [] rfl (List.mem_singleton.mp t1) (c_X12_tellsOf l G st o (nI 228) (nI 20) c2) (zi zm632) (zi zm633) (zi zm634) (zi zm5) (zi zm635) cal_X12_tellsOf rfl rfl hl.1 rfl (Nat.le_of_ble_eq_true rfl) (zR_ok (by omega) (by decide)) ⟨(Nat.le_of_ble_eq_true rfl), (Nat.le_of_ble_eq_true rfl)⟩ dX12_wantNow_6 (fun H locs hW hS => ?_)
  refine W.eq (g2 := F0 m 9 ls [.int r3]) rfl ?_
  refine lv_iconst (v := (nI 1)) hx hb dX12_wantNow_9 (by decide) ?_
  refine lv_bipush (v := (nI 40)) hx hb dX12_wantNow_10 (by decide) ?_
  obtain ⟨r5, c4, h⟩ := zd_at h
  refine z_cS hx hb hq hml hown hK hW hS [.int r3, .int ((nI 1)), .int ((nI 40))] [] (c_X12_within l G st r3 (nI 1) (nI 40) c4) (zi zm668) (zi zm669) (zi zm5) (zi zm670) cal_X12_within rfl hl.1 rfl (Nat.le_of_ble_eq_true rfl) (zR_ok (by omega) (by decide)) ⟨(Nat.le_of_ble_eq_true rfl), (Nat.le_of_ble_eq_true rfl)⟩ dX12_wantNow_12 (fun H locs hW hS => ?_)
  refine W.eq (g2 := F0 m 15 ls [.int r5]) rfl ?_
  obtain rfl := Option.some.inj h
  exact z_ri hx hb hr hlk hW hS (Nat.le_of_ble_eq_true rfl) (Nat.le_of_ble_eq_true rfl) dX12_wantNow_15
def f_X12_lookNow (st : zS) (o : Nat) : Option Int32 := (if zTg st o ∈ [22] then (Option.bind (f_X12_tellsOf st o (nI 233) (nI 3)) (fun r3 => (Option.bind (f_X12_within r3 (nI 1) (nI 5)) (fun r5 => (some r5))))) else none)
set_option maxHeartbeats 1000000 in
set_option maxRecDepth 100000 in
theorem c_X12_lookNow (l : Launch) (G : zG) (st : zS) (o : Nat) {r : Int32} (h : f_X12_lookNow st o = some r) : zMet l G yX12_lookNow cX12_lookNow 1 (some .int) 1 0 0 [.ref (G.2.2.2 + o)] st (some (.int r)) st := by
  refine zMet_of (by decide +kernel) ?_
  intro p e s m args below meth c X
  obtain ⟨hx, hb, hr, hml, hown, hq, hlk, hK, -, hin, hW, hS⟩ := X
  have hown : s.vm.findClass RX12 = some m.cls := hown
  refine z_ent (by exact Nat.le_of_ble_eq_true rfl) (fun ls hl => ?_)
  have hl : lv_has ls 1 [(0, .ref (G.2.2.2 + o))] := hl
  unfold f_X12_lookNow at h
  refine lv_aload_n hx hb dX12_lookNow_0 rfl (lv_at hl 0 rfl) ?_
  refine lv_sipush (v := (nI 233)) hx hb dX12_lookNow_1 (by decide) ?_
  refine lv_iconst (v := (nI 3)) hx hb dX12_lookNow_4 (by decide) ?_
  obtain ⟨t1, h⟩ := zc_at h
  obtain ⟨r3, c2, h⟩ := zd_at h
  refine z_cV hx hb hq hml hown hK hW hS 12 [.int ((nI 233)), .int ((nI 3))] [] rfl (List.mem_singleton.mp t1) (c_X12_tellsOf l G st o (nI 233) (nI 3) c2) (zi zm632) (zi zm633) (zi zm634) (zi zm5) (zi zm635) cal_X12_tellsOf rfl rfl hl.1 rfl (Nat.le_of_ble_eq_true rfl) (zR_ok (by omega) (by decide)) ⟨(Nat.le_of_ble_eq_true rfl), (Nat.le_of_ble_eq_true rfl)⟩ dX12_lookNow_5 (fun H locs hW hS => ?_)
  refine W.eq (g2 := F0 m 8 ls [.int r3]) rfl ?_
  refine lv_iconst (v := (nI 1)) hx hb dX12_lookNow_8 (by decide) ?_
  refine lv_iconst (v := (nI 5)) hx hb dX12_lookNow_9 (by decide) ?_
  obtain ⟨r5, c4, h⟩ := zd_at h
  refine z_cS hx hb hq hml hown hK hW hS [.int r3, .int ((nI 1)), .int ((nI 5))] [] (c_X12_within l G st r3 (nI 1) (nI 5) c4) (zi zm668) (zi zm669) (zi zm5) (zi zm670) cal_X12_within rfl hl.1 rfl (Nat.le_of_ble_eq_true rfl) (zR_ok (by omega) (by decide)) ⟨(Nat.le_of_ble_eq_true rfl), (Nat.le_of_ble_eq_true rfl)⟩ dX12_lookNow_10 (fun H locs hW hS => ?_)
  refine W.eq (g2 := F0 m 13 ls [.int r5]) rfl ?_
  obtain rfl := Option.some.inj h
  exact z_ri hx hb hr hlk hW hS (Nat.le_of_ble_eq_true rfl) (Nat.le_of_ble_eq_true rfl) dX12_lookNow_13
def f_X12_doesCount (st : zS) (o : Nat) : Option Int32 := (if zTg st o ∈ [22] then (Option.bind (f_X12_tellsOf st o (nI 238) (nI 0)) (fun r3 => (if r3 ≤ 0 then (some (nI 0)) else (some (nI 1))))) else none)
set_option maxHeartbeats 1000000 in
set_option maxRecDepth 100000 in
theorem c_X12_doesCount (l : Launch) (G : zG) (st : zS) (o : Nat) {r : Int32} (h : f_X12_doesCount st o = some r) : zMet l G yX12_doesCount cX12_doesCount 1 (some .boolean) 1 0 0 [.ref (G.2.2.2 + o)] st (some (.int r)) st := by
  refine zMet_of (by decide +kernel) ?_
  intro p e s m args below meth c X
  obtain ⟨hx, hb, hr, hml, hown, hq, hlk, hK, -, hin, hW, hS⟩ := X
  have hown : s.vm.findClass RX12 = some m.cls := hown
  refine z_ent (by exact Nat.le_of_ble_eq_true rfl) (fun ls hl => ?_)
  have hl : lv_has ls 1 [(0, .ref (G.2.2.2 + o))] := hl
  unfold f_X12_doesCount at h
  refine lv_aload_n hx hb dX12_doesCount_0 rfl (lv_at hl 0 rfl) ?_
  refine lv_sipush (v := (nI 238)) hx hb dX12_doesCount_1 (by decide) ?_
  refine lv_iconst (v := (nI 0)) hx hb dX12_doesCount_4 (by decide) ?_
  obtain ⟨t1, h⟩ := zc_at h
  obtain ⟨r3, c2, h⟩ := zd_at h
  refine z_cV hx hb hq hml hown hK hW hS 12 [.int ((nI 238)), .int ((nI 0))] [] rfl (List.mem_singleton.mp t1) (c_X12_tellsOf l G st o (nI 238) (nI 0) c2) (zi zm632) (zi zm633) (zi zm634) (zi zm5) (zi zm635) cal_X12_tellsOf rfl rfl hl.1 rfl (Nat.le_of_ble_eq_true rfl) (zR_ok (by omega) (by decide)) ⟨(Nat.le_of_ble_eq_true rfl), (Nat.le_of_ble_eq_true rfl)⟩ dX12_doesCount_5 (fun H locs hW hS => ?_)
  refine W.eq (g2 := F0 m 8 ls [.int r3]) rfl ?_
  refine z_br (lv_if_le (tgt := 15) hx hb dX12_doesCount_8 (by decide)) h (fun h => ?_) (fun h => ?_)
  · refine lv_iconst (v := (nI 0)) hx hb dX12_doesCount_15 (by decide) ?_
    obtain rfl := Option.some.inj h
    exact z_rz hx hb hr hlk rfl hW hS (Nat.le_of_ble_eq_true rfl) (Nat.le_of_ble_eq_true rfl) dX12_doesCount_16
  · refine lv_iconst (v := (nI 1)) hx hb dX12_doesCount_11 (by decide) ?_
    refine lv_goto (tgt := 16) hx hb dX12_doesCount_12 (by decide) ?_
    obtain rfl := Option.some.inj h
    exact z_rz hx hb hr hlk rfl hW hS (Nat.le_of_ble_eq_true rfl) (Nat.le_of_ble_eq_true rfl) dX12_doesCount_16
def f_X12_wayAt (st : zS) (o : Nat) (a1 : Int32) : Option Int32 := (if zTg st o ∈ [22] then (Option.bind (zR st o 1) (fun b2 => (if zTg st b2 ∈ [1] then (if zin (nI 8) (zLn st b2) then (if (zM st b2 ((nI 8)).toNatClampNeg) ≤ a1 then (some (-1 : Int32)) else (if zin ((nI 53) + a1) (zLn st b2) then (some (zM st b2 (((nI 53) + a1)).toNatClampNeg)) else none)) else none) else none))) else none)
set_option maxHeartbeats 1000000 in
set_option maxRecDepth 100000 in
theorem c_X12_wayAt (l : Launch) (G : zG) (st : zS) (o : Nat) (a1 : Int32) {r : Int32} (h : f_X12_wayAt st o a1 = some r) : zMet l G yX12_wayAt cX12_wayAt 2 (some .int) 0 0 0 [.ref (G.2.2.2 + o), .int a1] st (some (.int r)) st := by
  refine zMet_of (by decide +kernel) ?_
  intro p e s m args below meth c X
  obtain ⟨hx, hb, hr, hml, hown, hq, hlk, hK, -, hin, hW, hS⟩ := X
  have hown : s.vm.findClass RX12 = some m.cls := hown
  refine z_ent (by exact Nat.le_of_ble_eq_true rfl) (fun ls hl => ?_)
  have hl : lv_has ls 2 [(0, .ref (G.2.2.2 + o)), (1, .int a1)] := hl
  unfold f_X12_wayAt at h
  refine lv_iload_n hx hb dX12_wayAt_0 rfl (lv_at hl 1 rfl) ?_
  refine lv_aload_n hx hb dX12_wayAt_1 rfl (lv_at hl 0 rfl) ?_
  obtain ⟨t1, h⟩ := zc_at h
  obtain ⟨b2, hb2, h⟩ := zd_at h
  refine z_gR hx hb hq hown hK hW fs_RX12_9 t1 hb2 dX12_wayAt_2 ?_
  refine lv_bipush (v := (nI 8)) hx hb dX12_wayAt_5 (by decide) ?_
  obtain ⟨t3, h⟩ := zc_at h
  obtain ⟨t4, h⟩ := zc_at h
  refine z_alI hx hb hK hW (List.mem_singleton.mp t3) t4 dX12_wayAt_7 ?_
  refine z_br (lv_icmp_ge (tgt := 23) hx hb dX12_wayAt_8 (by decide)) h (fun h => ?_) (fun h => ?_)
  · refine lv_iconst (v := (-1)) hx hb dX12_wayAt_23 (by decide) ?_
    obtain rfl := Option.some.inj h
    exact z_ri hx hb hr hlk hW hS (Nat.le_of_ble_eq_true rfl) (Nat.le_of_ble_eq_true rfl) dX12_wayAt_24
  · refine lv_aload_n hx hb dX12_wayAt_11 rfl (lv_at hl 0 rfl) ?_
    refine z_gR hx hb hq hown hK hW fs_RX12_9 t1 hb2 dX12_wayAt_12 ?_
    refine lv_bipush (v := (nI 53)) hx hb dX12_wayAt_15 (by decide) ?_
    refine lv_iload_n hx hb dX12_wayAt_17 rfl (lv_at hl 1 rfl) ?_
    refine lv_iadd hx hb dX12_wayAt_18 ?_
    obtain ⟨t5, h⟩ := zc_at h
    refine z_alI hx hb hK hW (List.mem_singleton.mp t3) t5 dX12_wayAt_19 ?_
    refine lv_goto (tgt := 24) hx hb dX12_wayAt_20 (by decide) ?_
    obtain rfl := Option.some.inj h
    exact z_ri hx hb hr hlk hW hS (Nat.le_of_ble_eq_true rfl) (Nat.le_of_ble_eq_true rfl) dX12_wayAt_24
def f_X12_signAt_400 (N : Nat) (o : Nat) (a1 : Int32) (k137 : zS → Int32 → Int32 → Int32 → Int32 → Int32 → Option (zS × Int32)) (st : zS) (x3 : Int32) (x4 : Int32) (x5 : Int32) (x6 : Int32) (x7 : Int32) : Option (zS × Int32) := (k137 st x3 x4 x5 x6 (x7 + (nI 1)))
def f_X12_signAt_398 (N : Nat) (o : Nat) (a1 : Int32) (k137 : zS → Int32 → Int32 → Int32 → Int32 → Int32 → Option (zS × Int32)) (st : zS) (x4 : Int32) (x5 : Int32) (x6 : Int32) (x7 : Int32) (y0 : Int32) (y1 : Int32) : Option (zS × Int32) := (zl (y1 + y0) (fun v36 => (f_X12_signAt_400 N o a1 k137 st v36 x4 x5 x6 x7)))
def f_X12_signAt_372 (N : Nat) (o : Nat) (a1 : Int32) (k137 : zS → Int32 → Int32 → Int32 → Int32 → Int32 → Option (zS × Int32)) (st : zS) (x3 : Int32) (x4 : Int32) (x5 : Int32) (x6 : Int32) (x7 : Int32) (y0 : Int32) (y1 : Int32) (y2 : Nat) : Option (zS × Int32) := (if zTg st y2 ∈ [2] then (if zin y1 (zLn st y2) then (if zB y0 then (f_X12_signAt_400 N o a1 k137 (zPM st y2 (y1).toNatClampNeg y0) x3 x4 x5 x6 x7) else none) else none) else none)
def f_X12_signAt_367 (N : Nat) (o : Nat) (a1 : Int32) (k137 : zS → Int32 → Int32 → Int32 → Int32 → Int32 → Option (zS × Int32)) (st : zS) (x3 : Int32) (x4 : Int32) (x5 : Int32) (x6 : Int32) (x7 : Int32) (y0 : Int32) (y1 : Nat) : Option (zS × Int32) := (f_X12_signAt_372 N o a1 k137 st x3 x4 x5 x6 x7 (nI 1) y0 y1)
def f_X12_signAt_341 (N : Nat) (o : Nat) (a1 : Int32) (k137 : zS → Int32 → Int32 → Int32 → Int32 → Int32 → Option (zS × Int32)) (st : zS) (x3 : Int32) (x4 : Int32) (x5 : Int32) (x6 : Int32) (x7 : Int32) (y0 : Int32) (y1 : Nat) : Option (zS × Int32) := (f_X12_signAt_372 N o a1 k137 st x3 x4 x5 x6 x7 (nI 0) y0 y1)
def f_X12_signAt_286 (N : Nat) (o : Nat) (a1 : Int32) (k137 : zS → Int32 → Int32 → Int32 → Int32 → Int32 → Option (zS × Int32)) (st : zS) (x3 : Int32) (x4 : Int32) (x5 : Int32) (x6 : Int32) (x7 : Int32) (y0 : Int32) (y1 : Int32) (y2 : Nat) : Option (zS × Int32) := (if zTg st y2 ∈ [2] then (if zin y1 (zLn st y2) then (if zB y0 then (f_X12_signAt_400 N o a1 k137 (zPM st y2 (y1).toNatClampNeg y0) x3 x4 x5 x6 x7) else none) else none) else none)
def f_X12_signAt_248 (N : Nat) (o : Nat) (a1 : Int32) (k137 : zS → Int32 → Int32 → Int32 → Int32 → Int32 → Option (zS × Int32)) (st : zS) (x3 : Int32) (x4 : Int32) (x5 : Int32) (x6 : Int32) (x7 : Int32) (y0 : Int32) (y1 : Int32) (y2 : Nat) : Option (zS × Int32) := (if zTg st y2 ∈ [2] then (if zin y1 (zLn st y2) then (if zB y0 then (f_X12_signAt_400 N o a1 k137 (zPM st y2 (y1).toNatClampNeg y0) x3 x4 x5 (x6 + (nI 1)) x7) else none) else none) else none)
def f_X12_signAt_137 (N : Nat) (o : Nat) (a1 : Int32)  : Nat → zS → Int32 → Int32 → Int32 → Int32 → Int32 → Option (zS × Int32)
  | 0, _, _, _, _, _, _ => none
  | n137 + 1, st, x3, x4, x5, x6, x7 => (if (x5 + x4) ≤ x7 then (if x3 ≤ (nI 100) then (some (st, x3)) else (some (st, (nI 100)))) else (if zTg st o ∈ [22] then (Option.bind (zR st o 1) (fun b29 => (if zTg st b29 ∈ [1] then (if zin x7 (zLn st b29) then (zl (zM st b29 (x7).toNatClampNeg) (fun v32 => (if v32 < 0 then (if v32 = (-1 : Int32) then (Option.bind (zR st o 10) (fun b47 => (if zTg st b47 ∈ [2] then (if zin (x6 - (nI 1)) (zLn st b47) then (if (zM st b47 ((x6 - (nI 1))).toNatClampNeg) = 0 then (f_X12_signAt_286 N o a1 (f_X12_signAt_137 N o a1 n137) st x3 x4 x5 x6 x7 (nI 1) (x6 - (nI 1)) b47) else (f_X12_signAt_286 N o a1 (f_X12_signAt_137 N o a1 n137) st x3 x4 x5 x6 x7 (nI 0) (x6 - (nI 1)) b47)) else none) else none))) else (if v32 ≤ (-10 : Int32) then (Option.bind (zR st o 10) (fun b33 => (if zTg st b33 ∈ [2] then (if zin (nI 0) (zLn st b33) then (if (zM st b33 ((nI 0)).toNatClampNeg) = 0 then (f_X12_signAt_398 N o a1 (f_X12_signAt_137 N o a1 n137) st x4 x5 (nI 0) x7 (nI 0) x3) else (f_X12_signAt_398 N o a1 (f_X12_signAt_137 N o a1 n137) st x4 x5 (nI 0) x7 ((-10 : Int32) - v32) x3)) else none) else none))) else (Option.bind (zR st o 10) (fun b37 => (if v32 = (-2 : Int32) then (if zTg st b37 ∈ [2] then (if zin ((x6 + (-1)) - (nI 1)) (zLn st b37) then (if (zM st b37 (((x6 + (-1)) - (nI 1))).toNatClampNeg) = 0 then (f_X12_signAt_341 N o a1 (f_X12_signAt_137 N o a1 n137) st x3 x4 x5 (x6 + (-1)) x7 ((x6 + (-1)) - (nI 1)) b37) else (if zin (x6 + (-1)) (zLn st b37) then (if (zM st b37 ((x6 + (-1))).toNatClampNeg) = 0 then (f_X12_signAt_341 N o a1 (f_X12_signAt_137 N o a1 n137) st x3 x4 x5 (x6 + (-1)) x7 ((x6 + (-1)) - (nI 1)) b37) else (f_X12_signAt_372 N o a1 (f_X12_signAt_137 N o a1 n137) st x3 x4 x5 (x6 + (-1)) x7 (nI 1) ((x6 + (-1)) - (nI 1)) b37)) else none)) else none) else none) else (if zTg st b37 ∈ [2] then (if zin ((x6 + (-1)) - (nI 1)) (zLn st b37) then (if (zM st b37 (((x6 + (-1)) - (nI 1))).toNatClampNeg) = 0 then (if zin (x6 + (-1)) (zLn st b37) then (if (zM st b37 ((x6 + (-1))).toNatClampNeg) = 0 then (f_X12_signAt_372 N o a1 (f_X12_signAt_137 N o a1 n137) st x3 x4 x5 (x6 + (-1)) x7 (nI 0) ((x6 + (-1)) - (nI 1)) b37) else (f_X12_signAt_367 N o a1 (f_X12_signAt_137 N o a1 n137) st x3 x4 x5 (x6 + (-1)) x7 ((x6 + (-1)) - (nI 1)) b37)) else none) else (f_X12_signAt_367 N o a1 (f_X12_signAt_137 N o a1 n137) st x3 x4 x5 (x6 + (-1)) x7 ((x6 + (-1)) - (nI 1)) b37)) else none) else none)))))) else (Option.bind (zR st o 9) (fun b53 => (if zTg st b53 ∈ [1] then (if zin (v32 - v32 / (nI 8) * (nI 8)) (zLn st b53) then (zl (zM st b53 ((v32 - v32 / (nI 8) * (nI 8))).toNatClampNeg) (fun v56 => (zl ((v32 / (nI 8)) - (v32 / (nI 8)) / (nI 4) * (nI 4)) (fun v57 => (zl (v32 / (nI 32)) (fun v58 => (Option.bind (zR st o 10) (fun b59 => (if v57 = 0 then (if v58 ≤ v56 then (f_X12_signAt_248 N o a1 (f_X12_signAt_137 N o a1 n137) st x3 x4 x5 x6 x7 (nI 0) x6 b59) else (f_X12_signAt_248 N o a1 (f_X12_signAt_137 N o a1 n137) st x3 x4 x5 x6 x7 (nI 1) x6 b59)) else (if v57 = (nI 1) then (if v56 = v58 then (f_X12_signAt_248 N o a1 (f_X12_signAt_137 N o a1 n137) st x3 x4 x5 x6 x7 (nI 1) x6 b59) else (f_X12_signAt_248 N o a1 (f_X12_signAt_137 N o a1 n137) st x3 x4 x5 x6 x7 (nI 0) x6 b59)) else (if v56 ≤ v58 then (f_X12_signAt_248 N o a1 (f_X12_signAt_137 N o a1 n137) st x3 x4 x5 x6 x7 (nI 0) x6 b59) else (f_X12_signAt_248 N o a1 (f_X12_signAt_137 N o a1 n137) st x3 x4 x5 x6 x7 (nI 1) x6 b59)))))))))))) else none) else none)))))) else none) else none))) else none))
def f_X12_signAt_100 (N : Nat) (o : Nat) (a1 : Int32)  (st : zS) (y0 : Int32) (y1 : Int32) (y2 : Nat) : Option (zS × Int32) := (if zTg st y2 ∈ [1] then (if zin y1 (zLn st y2) then (if zTg (zPM st y2 (y1).toNatClampNeg y0) o ∈ [22] then (Option.bind (f_X12_tellsOf (zPM st y2 (y1).toNatClampNeg y0) o (nI 243) (nI 0)) (fun r23 => (Option.bind (zR (zPM st y2 (y1).toNatClampNeg y0) o 1) (fun b24 => (if zTg (zPM st y2 (y1).toNatClampNeg y0) b24 ∈ [1] then (if zin (nI 7) (zLn (zPM st y2 (y1).toNatClampNeg y0) b24) then (zl ((nI 248) + ((nI 140) * (zM (zPM st y2 (y1).toNatClampNeg y0) b24 ((nI 7)).toNatClampNeg))) (fun v27 => (f_X12_signAt_137 N o a1 N (zPM st y2 (y1).toNatClampNeg y0) (nI 0) r23 v27 (nI 0) v27))) else none) else none))))) else none) else none) else none)
def f_X12_signAt_99 (N : Nat) (o : Nat) (a1 : Int32)  (st : zS) (y0 : Int32) (y1 : Nat) : Option (zS × Int32) := (f_X12_signAt_100 N o a1 st (nI 0) y0 y1)
def f_X12_signAt (N : Nat) (st : zS) (o : Nat) (a1 : Int32) : Option (zS × Int32) := (if zTg st o ∈ [22] then (Option.bind (f_X12_wayAt st o a1) (fun r3 => (if r3 = (-1 : Int32) then (some (st, (nI 100))) else (Option.bind (zR st o 9) (fun b4 => (if zTg st b4 ∈ [1] then (if zin (nI 0) (zLn st b4) then (Option.bind (zR (zPM st b4 ((nI 0)).toNatClampNeg r3) o 1) (fun b7 => (if zTg (zPM st b4 ((nI 0)).toNatClampNeg r3) b7 ∈ [1] then (if zin ((nI 11) + r3) (zLn (zPM st b4 ((nI 0)).toNatClampNeg r3) b7) then (if zTg (zPM st b4 ((nI 0)).toNatClampNeg r3) b4 ∈ [1] then (if zin (nI 1) (zLn (zPM st b4 ((nI 0)).toNatClampNeg r3) b4) then (if zin ((nI 17) + r3) (zLn (zPM (zPM st b4 ((nI 0)).toNatClampNeg r3) b4 ((nI 1)).toNatClampNeg (zM (zPM st b4 ((nI 0)).toNatClampNeg r3) b7 (((nI 11) + r3)).toNatClampNeg)) b7) then (if zTg (zPM (zPM st b4 ((nI 0)).toNatClampNeg r3) b4 ((nI 1)).toNatClampNeg (zM (zPM st b4 ((nI 0)).toNatClampNeg r3) b7 (((nI 11) + r3)).toNatClampNeg)) b4 ∈ [1] then (if zin (nI 2) (zLn (zPM (zPM st b4 ((nI 0)).toNatClampNeg r3) b4 ((nI 1)).toNatClampNeg (zM (zPM st b4 ((nI 0)).toNatClampNeg r3) b7 (((nI 11) + r3)).toNatClampNeg)) b4) then (if zTg (zPM (zPM (zPM st b4 ((nI 0)).toNatClampNeg r3) b4 ((nI 1)).toNatClampNeg (zM (zPM st b4 ((nI 0)).toNatClampNeg r3) b7 (((nI 11) + r3)).toNatClampNeg)) b4 ((nI 2)).toNatClampNeg (zM (zPM (zPM st b4 ((nI 0)).toNatClampNeg r3) b4 ((nI 1)).toNatClampNeg (zM (zPM st b4 ((nI 0)).toNatClampNeg r3) b7 (((nI 11) + r3)).toNatClampNeg)) b7 (((nI 17) + r3)).toNatClampNeg)) b4 ∈ [1] then (if zin (nI 3) (zLn (zPM (zPM (zPM st b4 ((nI 0)).toNatClampNeg r3) b4 ((nI 1)).toNatClampNeg (zM (zPM st b4 ((nI 0)).toNatClampNeg r3) b7 (((nI 11) + r3)).toNatClampNeg)) b4 ((nI 2)).toNatClampNeg (zM (zPM (zPM st b4 ((nI 0)).toNatClampNeg r3) b4 ((nI 1)).toNatClampNeg (zM (zPM st b4 ((nI 0)).toNatClampNeg r3) b7 (((nI 11) + r3)).toNatClampNeg)) b7 (((nI 17) + r3)).toNatClampNeg)) b4) then (if zTg (zPM (zPM (zPM (zPM st b4 ((nI 0)).toNatClampNeg r3) b4 ((nI 1)).toNatClampNeg (zM (zPM st b4 ((nI 0)).toNatClampNeg r3) b7 (((nI 11) + r3)).toNatClampNeg)) b4 ((nI 2)).toNatClampNeg (zM (zPM (zPM st b4 ((nI 0)).toNatClampNeg r3) b4 ((nI 1)).toNatClampNeg (zM (zPM st b4 ((nI 0)).toNatClampNeg r3) b7 (((nI 11) + r3)).toNatClampNeg)) b7 (((nI 17) + r3)).toNatClampNeg)) b4 ((nI 3)).toNatClampNeg (a1 / (nI 10))) b4 ∈ [1] then (if zin (nI 4) (zLn (zPM (zPM (zPM (zPM st b4 ((nI 0)).toNatClampNeg r3) b4 ((nI 1)).toNatClampNeg (zM (zPM st b4 ((nI 0)).toNatClampNeg r3) b7 (((nI 11) + r3)).toNatClampNeg)) b4 ((nI 2)).toNatClampNeg (zM (zPM (zPM st b4 ((nI 0)).toNatClampNeg r3) b4 ((nI 1)).toNatClampNeg (zM (zPM st b4 ((nI 0)).toNatClampNeg r3) b7 (((nI 11) + r3)).toNatClampNeg)) b7 (((nI 17) + r3)).toNatClampNeg)) b4 ((nI 3)).toNatClampNeg (a1 / (nI 10))) b4) then (if a1 ≤ 0 then (f_X12_signAt_99 N o a1 (zPM (zPM (zPM (zPM (zPM st b4 ((nI 0)).toNatClampNeg r3) b4 ((nI 1)).toNatClampNeg (zM (zPM st b4 ((nI 0)).toNatClampNeg r3) b7 (((nI 11) + r3)).toNatClampNeg)) b4 ((nI 2)).toNatClampNeg (zM (zPM (zPM st b4 ((nI 0)).toNatClampNeg r3) b4 ((nI 1)).toNatClampNeg (zM (zPM st b4 ((nI 0)).toNatClampNeg r3) b7 (((nI 11) + r3)).toNatClampNeg)) b7 (((nI 17) + r3)).toNatClampNeg)) b4 ((nI 3)).toNatClampNeg (a1 / (nI 10))) b4 ((nI 4)).toNatClampNeg (a1 - a1 / (nI 10) * (nI 10))) (nI 5) b4) else (if zin (((nI 53) + a1) - (nI 1)) (zLn (zPM (zPM (zPM (zPM (zPM st b4 ((nI 0)).toNatClampNeg r3) b4 ((nI 1)).toNatClampNeg (zM (zPM st b4 ((nI 0)).toNatClampNeg r3) b7 (((nI 11) + r3)).toNatClampNeg)) b4 ((nI 2)).toNatClampNeg (zM (zPM (zPM st b4 ((nI 0)).toNatClampNeg r3) b4 ((nI 1)).toNatClampNeg (zM (zPM st b4 ((nI 0)).toNatClampNeg r3) b7 (((nI 11) + r3)).toNatClampNeg)) b7 (((nI 17) + r3)).toNatClampNeg)) b4 ((nI 3)).toNatClampNeg (a1 / (nI 10))) b4 ((nI 4)).toNatClampNeg (a1 - a1 / (nI 10) * (nI 10))) b7) then (if (zM (zPM (zPM (zPM (zPM (zPM st b4 ((nI 0)).toNatClampNeg r3) b4 ((nI 1)).toNatClampNeg (zM (zPM st b4 ((nI 0)).toNatClampNeg r3) b7 (((nI 11) + r3)).toNatClampNeg)) b4 ((nI 2)).toNatClampNeg (zM (zPM (zPM st b4 ((nI 0)).toNatClampNeg r3) b4 ((nI 1)).toNatClampNeg (zM (zPM st b4 ((nI 0)).toNatClampNeg r3) b7 (((nI 11) + r3)).toNatClampNeg)) b7 (((nI 17) + r3)).toNatClampNeg)) b4 ((nI 3)).toNatClampNeg (a1 / (nI 10))) b4 ((nI 4)).toNatClampNeg (a1 - a1 / (nI 10) * (nI 10))) b7 ((((nI 53) + a1) - (nI 1))).toNatClampNeg) = r3 then (f_X12_signAt_100 N o a1 (zPM (zPM (zPM (zPM (zPM st b4 ((nI 0)).toNatClampNeg r3) b4 ((nI 1)).toNatClampNeg (zM (zPM st b4 ((nI 0)).toNatClampNeg r3) b7 (((nI 11) + r3)).toNatClampNeg)) b4 ((nI 2)).toNatClampNeg (zM (zPM (zPM st b4 ((nI 0)).toNatClampNeg r3) b4 ((nI 1)).toNatClampNeg (zM (zPM st b4 ((nI 0)).toNatClampNeg r3) b7 (((nI 11) + r3)).toNatClampNeg)) b7 (((nI 17) + r3)).toNatClampNeg)) b4 ((nI 3)).toNatClampNeg (a1 / (nI 10))) b4 ((nI 4)).toNatClampNeg (a1 - a1 / (nI 10) * (nI 10))) (nI 1) (nI 5) b4) else (f_X12_signAt_99 N o a1 (zPM (zPM (zPM (zPM (zPM st b4 ((nI 0)).toNatClampNeg r3) b4 ((nI 1)).toNatClampNeg (zM (zPM st b4 ((nI 0)).toNatClampNeg r3) b7 (((nI 11) + r3)).toNatClampNeg)) b4 ((nI 2)).toNatClampNeg (zM (zPM (zPM st b4 ((nI 0)).toNatClampNeg r3) b4 ((nI 1)).toNatClampNeg (zM (zPM st b4 ((nI 0)).toNatClampNeg r3) b7 (((nI 11) + r3)).toNatClampNeg)) b7 (((nI 17) + r3)).toNatClampNeg)) b4 ((nI 3)).toNatClampNeg (a1 / (nI 10))) b4 ((nI 4)).toNatClampNeg (a1 - a1 / (nI 10) * (nI 10))) (nI 5) b4)) else none)) else none) else none) else none) else none) else none) else none) else none) else none) else none) else none) else none))) else none) else none)))))) else none)
set_option maxHeartbeats 1000000 in
set_option maxRecDepth 100000 in
theorem c_X12_signAt (l : Launch) (G : zG) (N : Nat) (st : zS) (o : Nat) (a1 : Int32) {st' : zS} {r : Int32} (h : f_X12_signAt N st o a1 = some (st', r)) : zMet l G yX12_signAt cX12_signAt 12 (some .int) 1 0 0 [.ref (G.2.2.2 + o), .int a1] st (some (.int r)) st' := by
  refine zMet_of (by decide +kernel) ?_
  intro p e s m args below meth c X
  obtain ⟨hx, hb, hr, hml, hown, hq, hlk, hK, -, hin, hW, hS⟩ := X
  have hown : s.vm.findClass RX12 = some m.cls := hown
  refine z_ent (by exact Nat.le_of_ble_eq_true rfl) (fun ls hl => ?_)
  have hl : lv_has ls 12 [(0, .ref (G.2.2.2 + o)), (1, .int a1)] := hl
  unfold f_X12_signAt at h
  have B137 : ∀ (n137 : Nat) (st : zS) (x3 : Int32) (x4 : Int32) (x5 : Int32) (x6 : Int32) (x7 : Int32) (H : Heap) (locs : List Loc) (ls : Array Slot), f_X12_signAt_137 N o a1 n137 st x3 x4 x5 x6 x7 = some (st', r) → zWd G st H → va_S (zA G) s.heap H locs → lv_has ls 12 [(0, .ref (G.2.2.2 + o)), (3, .int x3), (4, .int x4), (5, .int x5), (6, .int x6), (7, .int x7)] → W p l e (zRm 1 0 0) s m args below meth c H locs 0 0 (MQ below (zQ G (some (.int r)) st') args s 0 0 (zA G)) (F0 m 137 ls []) := by
    intro n137
    induction n137 with
    | zero =>
      intro st x3 x4 x5 x6 x7 H locs ls h
      unfold f_X12_signAt_137 at h
      cases h
    | succ n137 ih137 =>
      have B400 : ∀ (st : zS) (x3 : Int32) (x4 : Int32) (x5 : Int32) (x6 : Int32) (x7 : Int32) (H : Heap) (locs : List Loc) (ls : Array Slot), f_X12_signAt_400 N o a1 (f_X12_signAt_137 N o a1 n137) st x3 x4 x5 x6 x7 = some (st', r) → zWd G st H → va_S (zA G) s.heap H locs → lv_has ls 12 [(0, .ref (G.2.2.2 + o)), (3, .int x3), (4, .int x4), (5, .int x5), (6, .int x6), (7, .int x7)] → W p l e (zRm 1 0 0) s m args below meth c H locs 0 0 (MQ below (zQ G (some (.int r)) st') args s 0 0 (zA G)) (F0 m 400 ls []) := by
        intro st x3 x4 x5 x6 x7 H locs ls h hW hS hl
        unfold f_X12_signAt_400 at h
        refine lv_iinc (v := (x7 + (nI 1))) (lv' := [(7, .int ((x7 + (nI 1)))), (0, .ref (G.2.2.2 + o)), (3, .int x3), (4, .int x4), (5, .int x5), (6, .int x6)]) hx hb dX12_signAt_400 hl (k := 5) rfl rfl (by decide) rfl (fun ls hl => ?_)
        refine lv_goto (tgt := 137) hx hb dX12_signAt_403 (by decide) ?_
        exact ih137 st x3 x4 x5 x6 (x7 + (nI 1)) _ _ _ h hW hS (lv_sub hl [1, 2, 3, 4, 5, 0] rfl)
      have B398 : ∀ (st : zS) (x4 : Int32) (x5 : Int32) (x6 : Int32) (x7 : Int32) (y0 : Int32) (y1 : Int32) (H : Heap) (locs : List Loc) (ls : Array Slot), f_X12_signAt_398 N o a1 (f_X12_signAt_137 N o a1 n137) st x4 x5 x6 x7 y0 y1 = some (st', r) → zWd G st H → va_S (zA G) s.heap H locs → lv_has ls 12 [(0, .ref (G.2.2.2 + o)), (4, .int x4), (5, .int x5), (6, .int x6), (7, .int x7)] → W p l e (zRm 1 0 0) s m args below meth c H locs 0 0 (MQ below (zQ G (some (.int r)) st') args s 0 0 (zA G)) (F0 m 398 ls [.int y0, .int y1]) := by
        intro st x4 x5 x6 x7 y0 y1 H locs ls h hW hS hl
        unfold f_X12_signAt_398 at h
        refine lv_iadd hx hb dX12_signAt_398 ?_
        refine lv_topi (fun v36 ev36 => ?_)
        have h := zl_at ev36 h
        refine lv_istore_n (lv' := [(3, .int v36), (0, .ref (G.2.2.2 + o)), (4, .int x4), (5, .int x5), (6, .int x6), (7, .int x7)]) hx hb dX12_signAt_399 rfl hl (by decide) rfl (fun ls hl => ?_)
        exact B400 st v36 x4 x5 x6 x7 _ _ _ h hW hS (lv_sub hl [1, 0, 2, 3, 4, 5] rfl)
      have B372 : ∀ (st : zS) (x3 : Int32) (x4 : Int32) (x5 : Int32) (x6 : Int32) (x7 : Int32) (y0 : Int32) (y1 : Int32) (y2 : Nat) (H : Heap) (locs : List Loc) (ls : Array Slot), f_X12_signAt_372 N o a1 (f_X12_signAt_137 N o a1 n137) st x3 x4 x5 x6 x7 y0 y1 y2 = some (st', r) → zWd G st H → va_S (zA G) s.heap H locs → lv_has ls 12 [(0, .ref (G.2.2.2 + o)), (3, .int x3), (4, .int x4), (5, .int x5), (6, .int x6), (7, .int x7)] → W p l e (zRm 1 0 0) s m args below meth c H locs 0 0 (MQ below (zQ G (some (.int r)) st') args s 0 0 (zA G)) (F0 m 372 ls [.int y0, .int y1, .ref (G.2.2.2 + y2)]) := by
        intro st x3 x4 x5 x6 x7 y0 y1 y2 H locs ls h hW hS hl
        unfold f_X12_signAt_372 at h
        obtain ⟨t40, h⟩ := zc_at h
        obtain ⟨t41, h⟩ := zc_at h
        obtain ⟨t42, h⟩ := zc_at h
        refine z_asZ hx hb hK hW hS (List.mem_singleton.mp t40) t41 (zB_n t42) dX12_signAt_372 (fun H locs hW hS => ?_)
        refine lv_goto (tgt := 400) hx hb dX12_signAt_373 (by decide) ?_
        exact B400 (zPM st y2 (y1).toNatClampNeg y0) x3 x4 x5 x6 x7 _ _ _ h hW hS (lv_sub hl [0, 1, 2, 3, 4, 5] rfl)
      have B367 : ∀ (st : zS) (x3 : Int32) (x4 : Int32) (x5 : Int32) (x6 : Int32) (x7 : Int32) (y0 : Int32) (y1 : Nat) (H : Heap) (locs : List Loc) (ls : Array Slot), f_X12_signAt_367 N o a1 (f_X12_signAt_137 N o a1 n137) st x3 x4 x5 x6 x7 y0 y1 = some (st', r) → zWd G st H → va_S (zA G) s.heap H locs → lv_has ls 12 [(0, .ref (G.2.2.2 + o)), (3, .int x3), (4, .int x4), (5, .int x5), (6, .int x6), (7, .int x7)] → W p l e (zRm 1 0 0) s m args below meth c H locs 0 0 (MQ below (zQ G (some (.int r)) st') args s 0 0 (zA G)) (F0 m 367 ls [.int y0, .ref (G.2.2.2 + y1)]) := by
        intro st x3 x4 x5 x6 x7 y0 y1 H locs ls h hW hS hl
        unfold f_X12_signAt_367 at h
        refine lv_iconst (v := (nI 1)) hx hb dX12_signAt_367 (by decide) ?_
        refine lv_goto (tgt := 372) hx hb dX12_signAt_368 (by decide) ?_
        exact B372 st x3 x4 x5 x6 x7 (nI 1) y0 y1 _ _ _ h hW hS (lv_sub hl [0, 1, 2, 3, 4, 5] rfl)
      have B341 : ∀ (st : zS) (x3 : Int32) (x4 : Int32) (x5 : Int32) (x6 : Int32) (x7 : Int32) (y0 : Int32) (y1 : Nat) (H : Heap) (locs : List Loc) (ls : Array Slot), f_X12_signAt_341 N o a1 (f_X12_signAt_137 N o a1 n137) st x3 x4 x5 x6 x7 y0 y1 = some (st', r) → zWd G st H → va_S (zA G) s.heap H locs → lv_has ls 12 [(0, .ref (G.2.2.2 + o)), (3, .int x3), (4, .int x4), (5, .int x5), (6, .int x6), (7, .int x7)] → W p l e (zRm 1 0 0) s m args below meth c H locs 0 0 (MQ below (zQ G (some (.int r)) st') args s 0 0 (zA G)) (F0 m 341 ls [.int y0, .ref (G.2.2.2 + y1)]) := by
        intro st x3 x4 x5 x6 x7 y0 y1 H locs ls h hW hS hl
        unfold f_X12_signAt_341 at h
        refine lv_iconst (v := (nI 0)) hx hb dX12_signAt_341 (by decide) ?_
        refine lv_goto (tgt := 372) hx hb dX12_signAt_342 (by decide) ?_
        exact B372 st x3 x4 x5 x6 x7 (nI 0) y0 y1 _ _ _ h hW hS (lv_sub hl [0, 1, 2, 3, 4, 5] rfl)
      have B286 : ∀ (st : zS) (x3 : Int32) (x4 : Int32) (x5 : Int32) (x6 : Int32) (x7 : Int32) (y0 : Int32) (y1 : Int32) (y2 : Nat) (H : Heap) (locs : List Loc) (ls : Array Slot), f_X12_signAt_286 N o a1 (f_X12_signAt_137 N o a1 n137) st x3 x4 x5 x6 x7 y0 y1 y2 = some (st', r) → zWd G st H → va_S (zA G) s.heap H locs → lv_has ls 12 [(0, .ref (G.2.2.2 + o)), (3, .int x3), (4, .int x4), (5, .int x5), (6, .int x6), (7, .int x7)] → W p l e (zRm 1 0 0) s m args below meth c H locs 0 0 (MQ below (zQ G (some (.int r)) st') args s 0 0 (zA G)) (F0 m 286 ls [.int y0, .int y1, .ref (G.2.2.2 + y2)]) := by
        intro st x3 x4 x5 x6 x7 y0 y1 y2 H locs ls h hW hS hl
        unfold f_X12_signAt_286 at h
        obtain ⟨t50, h⟩ := zc_at h
        obtain ⟨t51, h⟩ := zc_at h
        obtain ⟨t52, h⟩ := zc_at h
        refine z_asZ hx hb hK hW hS (List.mem_singleton.mp t50) t51 (zB_n t52) dX12_signAt_286 (fun H locs hW hS => ?_)
        refine lv_goto (tgt := 400) hx hb dX12_signAt_287 (by decide) ?_
        exact B400 (zPM st y2 (y1).toNatClampNeg y0) x3 x4 x5 x6 x7 _ _ _ h hW hS (lv_sub hl [0, 1, 2, 3, 4, 5] rfl)
      have B248 : ∀ (st : zS) (x3 : Int32) (x4 : Int32) (x5 : Int32) (x6 : Int32) (x7 : Int32) (y0 : Int32) (y1 : Int32) (y2 : Nat) (H : Heap) (locs : List Loc) (ls : Array Slot), f_X12_signAt_248 N o a1 (f_X12_signAt_137 N o a1 n137) st x3 x4 x5 x6 x7 y0 y1 y2 = some (st', r) → zWd G st H → va_S (zA G) s.heap H locs → lv_has ls 12 [(0, .ref (G.2.2.2 + o)), (3, .int x3), (4, .int x4), (5, .int x5), (6, .int x6), (7, .int x7)] → W p l e (zRm 1 0 0) s m args below meth c H locs 0 0 (MQ below (zQ G (some (.int r)) st') args s 0 0 (zA G)) (F0 m 248 ls [.int y0, .int y1, .ref (G.2.2.2 + y2)]) := by
        intro st x3 x4 x5 x6 x7 y0 y1 y2 H locs ls h hW hS hl
        unfold f_X12_signAt_248 at h
        obtain ⟨t60, h⟩ := zc_at h
        obtain ⟨t61, h⟩ := zc_at h
        obtain ⟨t62, h⟩ := zc_at h
        refine z_asZ hx hb hK hW hS (List.mem_singleton.mp t60) t61 (zB_n t62) dX12_signAt_248 (fun H locs hW hS => ?_)
        refine lv_iinc (v := (x6 + (nI 1))) (lv' := [(6, .int ((x6 + (nI 1)))), (0, .ref (G.2.2.2 + o)), (3, .int x3), (4, .int x4), (5, .int x5), (7, .int x7)]) hx hb dX12_signAt_249 hl (k := 4) rfl rfl (by decide) rfl (fun ls hl => ?_)
        refine lv_goto (tgt := 400) hx hb dX12_signAt_252 (by decide) ?_
        exact B400 (zPM st y2 (y1).toNatClampNeg y0) x3 x4 x5 (x6 + (nI 1)) x7 _ _ _ h hW hS (lv_sub hl [1, 2, 3, 4, 0, 5] rfl)
      intro st x3 x4 x5 x6 x7 H locs ls h hW hS hl
      unfold f_X12_signAt_137 at h
      refine lv_iload hx hb dX12_signAt_137 (lv_at hl 5 rfl) ?_
      refine lv_iload hx hb dX12_signAt_139 (lv_at hl 3 rfl) ?_
      refine lv_iload hx hb dX12_signAt_141 (lv_at hl 2 rfl) ?_
      refine lv_iadd hx hb dX12_signAt_143 ?_
      refine z_br (lv_icmp_ge (tgt := 406) hx hb dX12_signAt_144 (by decide)) h (fun h => ?_) (fun h => ?_)
      · refine lv_iload_n hx hb dX12_signAt_406 rfl (lv_at hl 1 rfl) ?_
        refine lv_bipush (v := (nI 100)) hx hb dX12_signAt_407 (by decide) ?_
        refine z_br (lv_icmp_le (tgt := 417) hx hb dX12_signAt_409 (by decide)) h (fun h => ?_) (fun h => ?_)
        · refine lv_iload_n hx hb dX12_signAt_417 rfl (lv_at hl 1 rfl) ?_
          obtain ⟨rfl, rfl⟩ := Prod.mk.inj (Option.some.inj h)
          exact z_ri hx hb hr hlk hW hS (Nat.le_of_ble_eq_true rfl) (Nat.le_of_ble_eq_true rfl) dX12_signAt_418
        · refine lv_bipush (v := (nI 100)) hx hb dX12_signAt_412 (by decide) ?_
          refine lv_goto (tgt := 418) hx hb dX12_signAt_414 (by decide) ?_
          obtain ⟨rfl, rfl⟩ := Prod.mk.inj (Option.some.inj h)
          exact z_ri hx hb hr hlk hW hS (Nat.le_of_ble_eq_true rfl) (Nat.le_of_ble_eq_true rfl) dX12_signAt_418
      · refine lv_aload_n hx hb dX12_signAt_147 rfl (lv_at hl 0 rfl) ?_
        obtain ⟨t28, h⟩ := zc_at h
        obtain ⟨b29, hb29, h⟩ := zd_at h
        refine z_gR hx hb hq hown hK hW fs_RX12_9 t28 hb29 dX12_signAt_148 ?_
        refine lv_iload hx hb dX12_signAt_151 (lv_at hl 5 rfl) ?_
        obtain ⟨t30, h⟩ := zc_at h
        obtain ⟨t31, h⟩ := zc_at h
        refine z_alI hx hb hK hW (List.mem_singleton.mp t30) t31 dX12_signAt_153 ?_
        refine lv_topi (fun v32 ev32 => ?_)
        have h := zl_at ev32 h
        refine lv_istore (lv' := [(8, .int v32), (0, .ref (G.2.2.2 + o)), (3, .int x3), (4, .int x4), (5, .int x5), (6, .int x6), (7, .int x7)]) hx hb dX12_signAt_154 hl (by decide) rfl (fun ls hl => ?_)
        refine lv_iload hx hb dX12_signAt_156 (lv_at hl 0 rfl) ?_
        refine z_br (lv_if_lt (tgt := 255) hx hb dX12_signAt_158 (by decide)) h (fun h => ?_) (fun h => ?_)
        · refine lv_iload hx hb dX12_signAt_255 (lv_at hl 0 rfl) ?_
          refine lv_iconst (v := (-1)) hx hb dX12_signAt_257 (by decide) ?_
          refine z_brn (lv_icmp_ne (tgt := 290) hx hb dX12_signAt_258 (by decide)) h (fun h => ?_) (fun h => ?_)
          · refine lv_iload hx hb dX12_signAt_290 (lv_at hl 0 rfl) ?_
            refine lv_bipush (v := (-10)) hx hb dX12_signAt_292 (by decide) ?_
            refine z_br (lv_icmp_le (tgt := 376) hx hb dX12_signAt_294 (by decide)) h (fun h => ?_) (fun h => ?_)
            · refine lv_iconst (v := (nI 0)) hx hb dX12_signAt_376 (by decide) ?_
              refine lv_istore (lv' := [(6, .int ((nI 0))), (8, .int v32), (0, .ref (G.2.2.2 + o)), (3, .int x3), (4, .int x4), (5, .int x5), (7, .int x7)]) hx hb dX12_signAt_377 hl (by decide) rfl (fun ls hl => ?_)
              refine lv_iload_n hx hb dX12_signAt_379 rfl (lv_at hl 3 rfl) ?_
              refine lv_aload_n hx hb dX12_signAt_380 rfl (lv_at hl 2 rfl) ?_
              obtain ⟨b33, hb33, h⟩ := zd_at h
              refine z_gR hx hb hq hown hK hW fs_RX12_21 t28 hb33 dX12_signAt_381 ?_
              refine lv_iconst (v := (nI 0)) hx hb dX12_signAt_384 (by decide) ?_
              obtain ⟨t34, h⟩ := zc_at h
              obtain ⟨t35, h⟩ := zc_at h
              refine z_alZ hx hb hK hW (List.mem_singleton.mp t34) t35 dX12_signAt_385 ?_
              refine z_br (lv_if_eq (tgt := 397) hx hb dX12_signAt_386 (by decide)) h (fun h => ?_) (fun h => ?_)
              · refine lv_iconst (v := (nI 0)) hx hb dX12_signAt_397 (by decide) ?_
                exact B398 st x4 x5 (nI 0) x7 (nI 0) x3 _ _ _ h hW hS (lv_sub hl [2, 4, 5, 0, 6] rfl)
              · refine lv_bipush (v := (-10)) hx hb dX12_signAt_389 (by decide) ?_
                refine lv_iload hx hb dX12_signAt_391 (lv_at hl 1 rfl) ?_
                refine lv_isub hx hb dX12_signAt_393 ?_
                refine lv_goto (tgt := 398) hx hb dX12_signAt_394 (by decide) ?_
                exact B398 st x4 x5 (nI 0) x7 ((-10 : Int32) - v32) x3 _ _ _ h hW hS (lv_sub hl [2, 4, 5, 0, 6] rfl)
            · refine lv_iinc (v := (x6 + (-1))) (lv' := [(6, .int ((x6 + (-1)))), (8, .int v32), (0, .ref (G.2.2.2 + o)), (3, .int x3), (4, .int x4), (5, .int x5), (7, .int x7)]) hx hb dX12_signAt_297 hl (k := 5) rfl rfl (by decide) rfl (fun ls hl => ?_)
              refine lv_aload_n hx hb dX12_signAt_300 rfl (lv_at hl 2 rfl) ?_
              obtain ⟨b37, hb37, h⟩ := zd_at h
              refine z_gR hx hb hq hown hK hW fs_RX12_21 t28 hb37 dX12_signAt_301 ?_
              refine lv_iload hx hb dX12_signAt_304 (lv_at hl 0 rfl) ?_
              refine lv_iconst (v := (nI 1)) hx hb dX12_signAt_306 (by decide) ?_
              refine lv_isub hx hb dX12_signAt_307 ?_
              refine lv_iload hx hb dX12_signAt_308 (lv_at hl 1 rfl) ?_
              refine lv_bipush (v := (-2)) hx hb dX12_signAt_310 (by decide) ?_
              refine z_brn (lv_icmp_ne (tgt := 345) hx hb dX12_signAt_312 (by decide)) h (fun h => ?_) (fun h => ?_)
              · refine lv_aload_n hx hb dX12_signAt_345 rfl (lv_at hl 2 rfl) ?_
                refine z_gR hx hb hq hown hK hW fs_RX12_21 t28 hb37 dX12_signAt_346 ?_
                refine lv_iload hx hb dX12_signAt_349 (lv_at hl 0 rfl) ?_
                refine lv_iconst (v := (nI 1)) hx hb dX12_signAt_351 (by decide) ?_
                refine lv_isub hx hb dX12_signAt_352 ?_
                obtain ⟨t38, h⟩ := zc_at h
                obtain ⟨t39, h⟩ := zc_at h
                refine z_alZ hx hb hK hW (List.mem_singleton.mp t38) t39 dX12_signAt_353 ?_
                refine z_brn (lv_if_ne (tgt := 367) hx hb dX12_signAt_354 (by decide)) h (fun h => ?_) (fun h => ?_)
                · exact B367 st x3 x4 x5 (x6 + (-1)) x7 ((x6 + (-1)) - (nI 1)) b37 _ _ _ h hW hS (lv_sub hl [2, 3, 4, 5, 0, 6] rfl)
                · refine lv_aload_n hx hb dX12_signAt_357 rfl (lv_at hl 2 rfl) ?_
                  refine z_gR hx hb hq hown hK hW fs_RX12_21 t28 hb37 dX12_signAt_358 ?_
                  refine lv_iload hx hb dX12_signAt_361 (lv_at hl 0 rfl) ?_
                  obtain ⟨t43, h⟩ := zc_at h
                  refine z_alZ hx hb hK hW (List.mem_singleton.mp t38) t43 dX12_signAt_363 ?_
                  refine z_br (lv_if_eq (tgt := 371) hx hb dX12_signAt_364 (by decide)) h (fun h => ?_) (fun h => ?_)
                  · refine lv_iconst (v := (nI 0)) hx hb dX12_signAt_371 (by decide) ?_
                    exact B372 st x3 x4 x5 (x6 + (-1)) x7 (nI 0) ((x6 + (-1)) - (nI 1)) b37 _ _ _ h hW hS (lv_sub hl [2, 3, 4, 5, 0, 6] rfl)
                  · exact B367 st x3 x4 x5 (x6 + (-1)) x7 ((x6 + (-1)) - (nI 1)) b37 _ _ _ h hW hS (lv_sub hl [2, 3, 4, 5, 0, 6] rfl)
              · refine lv_aload_n hx hb dX12_signAt_315 rfl (lv_at hl 2 rfl) ?_
                refine z_gR hx hb hq hown hK hW fs_RX12_21 t28 hb37 dX12_signAt_316 ?_
                refine lv_iload hx hb dX12_signAt_319 (lv_at hl 0 rfl) ?_
                refine lv_iconst (v := (nI 1)) hx hb dX12_signAt_321 (by decide) ?_
                refine lv_isub hx hb dX12_signAt_322 ?_
                obtain ⟨t44, h⟩ := zc_at h
                obtain ⟨t45, h⟩ := zc_at h
                refine z_alZ hx hb hK hW (List.mem_singleton.mp t44) t45 dX12_signAt_323 ?_
                refine z_br (lv_if_eq (tgt := 341) hx hb dX12_signAt_324 (by decide)) h (fun h => ?_) (fun h => ?_)
                · exact B341 st x3 x4 x5 (x6 + (-1)) x7 ((x6 + (-1)) - (nI 1)) b37 _ _ _ h hW hS (lv_sub hl [2, 3, 4, 5, 0, 6] rfl)
                · refine lv_aload_n hx hb dX12_signAt_327 rfl (lv_at hl 2 rfl) ?_
                  refine z_gR hx hb hq hown hK hW fs_RX12_21 t28 hb37 dX12_signAt_328 ?_
                  refine lv_iload hx hb dX12_signAt_331 (lv_at hl 0 rfl) ?_
                  obtain ⟨t46, h⟩ := zc_at h
                  refine z_alZ hx hb hK hW (List.mem_singleton.mp t44) t46 dX12_signAt_333 ?_
                  refine z_br (lv_if_eq (tgt := 341) hx hb dX12_signAt_334 (by decide)) h (fun h => ?_) (fun h => ?_)
                  · exact B341 st x3 x4 x5 (x6 + (-1)) x7 ((x6 + (-1)) - (nI 1)) b37 _ _ _ h hW hS (lv_sub hl [2, 3, 4, 5, 0, 6] rfl)
                  · refine lv_iconst (v := (nI 1)) hx hb dX12_signAt_337 (by decide) ?_
                    refine lv_goto (tgt := 372) hx hb dX12_signAt_338 (by decide) ?_
                    exact B372 st x3 x4 x5 (x6 + (-1)) x7 (nI 1) ((x6 + (-1)) - (nI 1)) b37 _ _ _ h hW hS (lv_sub hl [2, 3, 4, 5, 0, 6] rfl)
          · refine lv_aload_n hx hb dX12_signAt_261 rfl (lv_at hl 1 rfl) ?_
            obtain ⟨b47, hb47, h⟩ := zd_at h
            refine z_gR hx hb hq hown hK hW fs_RX12_21 t28 hb47 dX12_signAt_262 ?_
            refine lv_iload hx hb dX12_signAt_265 (lv_at hl 5 rfl) ?_
            refine lv_iconst (v := (nI 1)) hx hb dX12_signAt_267 (by decide) ?_
            refine lv_isub hx hb dX12_signAt_268 ?_
            refine lv_aload_n hx hb dX12_signAt_269 rfl (lv_at hl 1 rfl) ?_
            refine z_gR hx hb hq hown hK hW fs_RX12_21 t28 hb47 dX12_signAt_270 ?_
            refine lv_iload hx hb dX12_signAt_273 (lv_at hl 5 rfl) ?_
            refine lv_iconst (v := (nI 1)) hx hb dX12_signAt_275 (by decide) ?_
            refine lv_isub hx hb dX12_signAt_276 ?_
            obtain ⟨t48, h⟩ := zc_at h
            obtain ⟨t49, h⟩ := zc_at h
            refine z_alZ hx hb hK hW (List.mem_singleton.mp t48) t49 dX12_signAt_277 ?_
            refine z_brn (lv_if_ne (tgt := 285) hx hb dX12_signAt_278 (by decide)) h (fun h => ?_) (fun h => ?_)
            · refine lv_iconst (v := (nI 0)) hx hb dX12_signAt_285 (by decide) ?_
              exact B286 st x3 x4 x5 x6 x7 (nI 0) (x6 - (nI 1)) b47 _ _ _ h hW hS (lv_sub hl [1, 2, 3, 4, 5, 6] rfl)
            · refine lv_iconst (v := (nI 1)) hx hb dX12_signAt_281 (by decide) ?_
              refine lv_goto (tgt := 286) hx hb dX12_signAt_282 (by decide) ?_
              exact B286 st x3 x4 x5 x6 x7 (nI 1) (x6 - (nI 1)) b47 _ _ _ h hW hS (lv_sub hl [1, 2, 3, 4, 5, 6] rfl)
        · refine lv_aload_n hx hb dX12_signAt_161 rfl (lv_at hl 1 rfl) ?_
          obtain ⟨b53, hb53, h⟩ := zd_at h
          refine z_gR hx hb hq hown hK hW fs_RX12_18 t28 hb53 dX12_signAt_162 ?_
          refine lv_iload hx hb dX12_signAt_165 (lv_at hl 0 rfl) ?_
          refine lv_bipush (v := (nI 8)) hx hb dX12_signAt_167 (by decide) ?_
          refine lv_irem hx hb dX12_signAt_169 (by decide) ?_
          obtain ⟨t54, h⟩ := zc_at h
          obtain ⟨t55, h⟩ := zc_at h
          refine z_alI hx hb hK hW (List.mem_singleton.mp t54) t55 dX12_signAt_170 ?_
          refine lv_topi (fun v56 ev56 => ?_)
          have h := zl_at ev56 h
          refine lv_istore (lv' := [(9, .int v56), (8, .int v32), (0, .ref (G.2.2.2 + o)), (3, .int x3), (4, .int x4), (5, .int x5), (6, .int x6), (7, .int x7)]) hx hb dX12_signAt_171 hl (by decide) rfl (fun ls hl => ?_)
          refine lv_iload hx hb dX12_signAt_173 (lv_at hl 1 rfl) ?_
          refine lv_bipush (v := (nI 8)) hx hb dX12_signAt_175 (by decide) ?_
          refine lv_idiv hx hb dX12_signAt_177 (by decide) ?_
          refine lv_iconst (v := (nI 4)) hx hb dX12_signAt_178 (by decide) ?_
          refine lv_irem hx hb dX12_signAt_179 (by decide) ?_
          refine lv_topi (fun v57 ev57 => ?_)
          have h := zl_at ev57 h
          refine lv_istore (lv' := [(10, .int v57), (9, .int v56), (8, .int v32), (0, .ref (G.2.2.2 + o)), (3, .int x3), (4, .int x4), (5, .int x5), (6, .int x6), (7, .int x7)]) hx hb dX12_signAt_180 hl (by decide) rfl (fun ls hl => ?_)
          refine lv_iload hx hb dX12_signAt_182 (lv_at hl 2 rfl) ?_
          refine lv_bipush (v := (nI 32)) hx hb dX12_signAt_184 (by decide) ?_
          refine lv_idiv hx hb dX12_signAt_186 (by decide) ?_
          refine lv_topi (fun v58 ev58 => ?_)
          have h := zl_at ev58 h
          refine lv_istore (lv' := [(11, .int v58), (10, .int v57), (9, .int v56), (8, .int v32), (0, .ref (G.2.2.2 + o)), (3, .int x3), (4, .int x4), (5, .int x5), (6, .int x6), (7, .int x7)]) hx hb dX12_signAt_187 hl (by decide) rfl (fun ls hl => ?_)
          refine lv_aload_n hx hb dX12_signAt_189 rfl (lv_at hl 4 rfl) ?_
          obtain ⟨b59, hb59, h⟩ := zd_at h
          refine z_gR hx hb hq hown hK hW fs_RX12_21 t28 hb59 dX12_signAt_190 ?_
          refine lv_iload hx hb dX12_signAt_193 (lv_at hl 8 rfl) ?_
          refine lv_iload hx hb dX12_signAt_195 (lv_at hl 1 rfl) ?_
          refine z_brn (lv_if_ne (tgt := 215) hx hb dX12_signAt_197 (by decide)) h (fun h => ?_) (fun h => ?_)
          · refine lv_iload hx hb dX12_signAt_215 (lv_at hl 1 rfl) ?_
            refine lv_iconst (v := (nI 1)) hx hb dX12_signAt_217 (by decide) ?_
            refine z_brn (lv_icmp_ne (tgt := 236) hx hb dX12_signAt_218 (by decide)) h (fun h => ?_) (fun h => ?_)
            · refine lv_iload hx hb dX12_signAt_236 (lv_at hl 2 rfl) ?_
              refine lv_iload hx hb dX12_signAt_238 (lv_at hl 0 rfl) ?_
              refine z_br (lv_icmp_le (tgt := 247) hx hb dX12_signAt_240 (by decide)) h (fun h => ?_) (fun h => ?_)
              · refine lv_iconst (v := (nI 0)) hx hb dX12_signAt_247 (by decide) ?_
                exact B248 st x3 x4 x5 x6 x7 (nI 0) x6 b59 _ _ _ h hW hS (lv_sub hl [4, 5, 6, 7, 8, 9] rfl)
              · refine lv_iconst (v := (nI 1)) hx hb dX12_signAt_243 (by decide) ?_
                refine lv_goto (tgt := 248) hx hb dX12_signAt_244 (by decide) ?_
                exact B248 st x3 x4 x5 x6 x7 (nI 1) x6 b59 _ _ _ h hW hS (lv_sub hl [4, 5, 6, 7, 8, 9] rfl)
            · refine lv_iload hx hb dX12_signAt_221 (lv_at hl 2 rfl) ?_
              refine lv_iload hx hb dX12_signAt_223 (lv_at hl 0 rfl) ?_
              refine z_brn (lv_icmp_ne (tgt := 232) hx hb dX12_signAt_225 (by decide)) h (fun h => ?_) (fun h => ?_)
              · refine lv_iconst (v := (nI 0)) hx hb dX12_signAt_232 (by decide) ?_
                refine lv_goto (tgt := 248) hx hb dX12_signAt_233 (by decide) ?_
                exact B248 st x3 x4 x5 x6 x7 (nI 0) x6 b59 _ _ _ h hW hS (lv_sub hl [4, 5, 6, 7, 8, 9] rfl)
              · refine lv_iconst (v := (nI 1)) hx hb dX12_signAt_228 (by decide) ?_
                refine lv_goto (tgt := 248) hx hb dX12_signAt_229 (by decide) ?_
                exact B248 st x3 x4 x5 x6 x7 (nI 1) x6 b59 _ _ _ h hW hS (lv_sub hl [4, 5, 6, 7, 8, 9] rfl)
          · refine lv_iload hx hb dX12_signAt_200 (lv_at hl 2 rfl) ?_
            refine lv_iload hx hb dX12_signAt_202 (lv_at hl 0 rfl) ?_
            refine z_br (lv_icmp_ge (tgt := 211) hx hb dX12_signAt_204 (by decide)) h (fun h => ?_) (fun h => ?_)
            · refine lv_iconst (v := (nI 0)) hx hb dX12_signAt_211 (by decide) ?_
              refine lv_goto (tgt := 248) hx hb dX12_signAt_212 (by decide) ?_
              exact B248 st x3 x4 x5 x6 x7 (nI 0) x6 b59 _ _ _ h hW hS (lv_sub hl [4, 5, 6, 7, 8, 9] rfl)
            · refine lv_iconst (v := (nI 1)) hx hb dX12_signAt_207 (by decide) ?_
              refine lv_goto (tgt := 248) hx hb dX12_signAt_208 (by decide) ?_
              exact B248 st x3 x4 x5 x6 x7 (nI 1) x6 b59 _ _ _ h hW hS (lv_sub hl [4, 5, 6, 7, 8, 9] rfl)
  have B100 : ∀ (st : zS) (y0 : Int32) (y1 : Int32) (y2 : Nat) (H : Heap) (locs : List Loc) (ls : Array Slot), f_X12_signAt_100 N o a1 st y0 y1 y2 = some (st', r) → zWd G st H → va_S (zA G) s.heap H locs → lv_has ls 12 [(0, .ref (G.2.2.2 + o))] → W p l e (zRm 1 0 0) s m args below meth c H locs 0 0 (MQ below (zQ G (some (.int r)) st') args s 0 0 (zA G)) (F0 m 100 ls [.int y0, .int y1, .ref (G.2.2.2 + y2)]) := by
    intro st y0 y1 y2 H locs ls h hW hS hl
    unfold f_X12_signAt_100 at h
    obtain ⟨t19, h⟩ := zc_at h
    obtain ⟨t20, h⟩ := zc_at h
    refine z_asI hx hb hK hW hS (List.mem_singleton.mp t19) t20 dX12_signAt_100 (fun H locs hW hS => ?_)
    refine lv_iconst (v := (nI 0)) hx hb dX12_signAt_101 (by decide) ?_
    refine lv_istore_n (lv' := [(3, .int ((nI 0))), (0, .ref (G.2.2.2 + o))]) hx hb dX12_signAt_102 rfl hl (by decide) rfl (fun ls hl => ?_)
    refine lv_aload_n hx hb dX12_signAt_103 rfl (lv_at hl 1 rfl) ?_
    refine lv_sipush (v := (nI 243)) hx hb dX12_signAt_104 (by decide) ?_
    refine lv_iconst (v := (nI 0)) hx hb dX12_signAt_107 (by decide) ?_
    obtain ⟨t21, h⟩ := zc_at h
    obtain ⟨r23, c22, h⟩ := zd_at h
    refine z_cV hx hb hq hml hown hK hW hS 12 [.int ((nI 243)), .int ((nI 0))] [] rfl (List.mem_singleton.mp t21) (c_X12_tellsOf l G (zPM st y2 (y1).toNatClampNeg y0) o (nI 243) (nI 0) c22) (zi zm632) (zi zm633) (zi zm634) (zi zm5) (zi zm635) cal_X12_tellsOf rfl rfl hl.1 rfl (Nat.le_of_ble_eq_true rfl) (zR_ok (by omega) (by decide)) ⟨(Nat.le_of_ble_eq_true rfl), (Nat.le_of_ble_eq_true rfl)⟩ dX12_signAt_108 (fun H locs hW hS => ?_)
    refine W.eq (g2 := F0 m 111 ls [.int r23]) rfl ?_
    refine lv_istore (lv' := [(4, .int r23), (3, .int ((nI 0))), (0, .ref (G.2.2.2 + o))]) hx hb dX12_signAt_111 hl (by decide) rfl (fun ls hl => ?_)
    refine lv_sipush (v := (nI 248)) hx hb dX12_signAt_113 (by decide) ?_
    refine lv_sipush (v := (nI 140)) hx hb dX12_signAt_116 (by decide) ?_
    refine lv_aload_n hx hb dX12_signAt_119 rfl (lv_at hl 2 rfl) ?_
    obtain ⟨b24, hb24, h⟩ := zd_at h
    refine z_gR hx hb hq hown hK hW fs_RX12_9 t21 hb24 dX12_signAt_120 ?_
    refine lv_bipush (v := (nI 7)) hx hb dX12_signAt_123 (by decide) ?_
    obtain ⟨t25, h⟩ := zc_at h
    obtain ⟨t26, h⟩ := zc_at h
    refine z_alI hx hb hK hW (List.mem_singleton.mp t25) t26 dX12_signAt_125 ?_
    refine lv_imul hx hb dX12_signAt_126 ?_
    refine lv_iadd hx hb dX12_signAt_127 ?_
    refine lv_topi (fun v27 ev27 => ?_)
    have h := zl_at ev27 h
    refine lv_istore (lv' := [(5, .int v27), (4, .int r23), (3, .int ((nI 0))), (0, .ref (G.2.2.2 + o))]) hx hb dX12_signAt_128 hl (by decide) rfl (fun ls hl => ?_)
    refine lv_iconst (v := (nI 0)) hx hb dX12_signAt_130 (by decide) ?_
    refine lv_istore (lv' := [(6, .int ((nI 0))), (5, .int v27), (4, .int r23), (3, .int ((nI 0))), (0, .ref (G.2.2.2 + o))]) hx hb dX12_signAt_131 hl (by decide) rfl (fun ls hl => ?_)
    refine lv_iload hx hb dX12_signAt_133 (lv_at hl 1 rfl) ?_
    refine lv_istore (lv' := [(7, .int v27), (6, .int ((nI 0))), (5, .int v27), (4, .int r23), (3, .int ((nI 0))), (0, .ref (G.2.2.2 + o))]) hx hb dX12_signAt_135 hl (by decide) rfl (fun ls hl => ?_)
    exact B137 N (zPM st y2 (y1).toNatClampNeg y0) (nI 0) r23 v27 (nI 0) v27 _ _ _ h hW hS (lv_sub hl [5, 4, 3, 2, 1, 0] rfl)
  have B99 : ∀ (st : zS) (y0 : Int32) (y1 : Nat) (H : Heap) (locs : List Loc) (ls : Array Slot), f_X12_signAt_99 N o a1 st y0 y1 = some (st', r) → zWd G st H → va_S (zA G) s.heap H locs → lv_has ls 12 [(0, .ref (G.2.2.2 + o))] → W p l e (zRm 1 0 0) s m args below meth c H locs 0 0 (MQ below (zQ G (some (.int r)) st') args s 0 0 (zA G)) (F0 m 99 ls [.int y0, .ref (G.2.2.2 + y1)]) := by
    intro st y0 y1 H locs ls h hW hS hl
    unfold f_X12_signAt_99 at h
    refine lv_iconst (v := (nI 0)) hx hb dX12_signAt_99 (by decide) ?_
    exact B100 st (nI 0) y0 y1 _ _ _ h hW hS (lv_sub hl [0] rfl)
  refine lv_aload_n hx hb dX12_signAt_0 rfl (lv_at hl 0 rfl) ?_
  refine lv_iload_n hx hb dX12_signAt_1 rfl (lv_at hl 1 rfl) ?_
  obtain ⟨t1, h⟩ := zc_at h
  obtain ⟨r3, c2, h⟩ := zd_at h
  refine z_cV hx hb hq hml hown hK hW hS 12 [.int a1] [] rfl (List.mem_singleton.mp t1) (c_X12_wayAt l G st o a1 c2) (zi zm628) (zi zm629) (zi zm630) (zi zm5) (zi zm631) cal_X12_wayAt rfl rfl hl.1 rfl (Nat.le_of_ble_eq_true rfl) (zR_ok (by omega) (by decide)) ⟨(Nat.le_of_ble_eq_true rfl), (Nat.le_of_ble_eq_true rfl)⟩ dX12_signAt_2 (fun H locs hW hS => ?_)
  refine W.eq (g2 := F0 m 5 ls [.int r3]) rfl ?_
  refine lv_istore_n (lv' := [(2, .int r3), (0, .ref (G.2.2.2 + o)), (1, .int a1)]) hx hb dX12_signAt_5 rfl hl (by decide) rfl (fun ls hl => ?_)
  refine lv_iload_n hx hb dX12_signAt_6 rfl (lv_at hl 0 rfl) ?_
  refine lv_iconst (v := (-1)) hx hb dX12_signAt_7 (by decide) ?_
  refine z_brn (lv_icmp_ne (tgt := 14) hx hb dX12_signAt_8 (by decide)) h (fun h => ?_) (fun h => ?_)
  · refine lv_aload_n hx hb dX12_signAt_14 rfl (lv_at hl 1 rfl) ?_
    obtain ⟨b4, hb4, h⟩ := zd_at h
    refine z_gR hx hb hq hown hK hW fs_RX12_18 t1 hb4 dX12_signAt_15 ?_
    refine lv_iconst (v := (nI 0)) hx hb dX12_signAt_18 (by decide) ?_
    refine lv_iload_n hx hb dX12_signAt_19 rfl (lv_at hl 0 rfl) ?_
    obtain ⟨t5, h⟩ := zc_at h
    obtain ⟨t6, h⟩ := zc_at h
    refine z_asI hx hb hK hW hS (List.mem_singleton.mp t5) t6 dX12_signAt_20 (fun H locs hW hS => ?_)
    refine lv_aload_n hx hb dX12_signAt_21 rfl (lv_at hl 1 rfl) ?_
    refine z_gR hx hb hq hown hK hW fs_RX12_18 t1 hb4 dX12_signAt_22 ?_
    refine lv_iconst (v := (nI 1)) hx hb dX12_signAt_25 (by decide) ?_
    refine lv_aload_n hx hb dX12_signAt_26 rfl (lv_at hl 1 rfl) ?_
    obtain ⟨b7, hb7, h⟩ := zd_at h
    refine z_gR hx hb hq hown hK hW fs_RX12_9 t1 hb7 dX12_signAt_27 ?_
    refine lv_bipush (v := (nI 11)) hx hb dX12_signAt_30 (by decide) ?_
    refine lv_iload_n hx hb dX12_signAt_32 rfl (lv_at hl 0 rfl) ?_
    refine lv_iadd hx hb dX12_signAt_33 ?_
    obtain ⟨t8, h⟩ := zc_at h
    obtain ⟨t9, h⟩ := zc_at h
    refine z_alI hx hb hK hW (List.mem_singleton.mp t8) t9 dX12_signAt_34 ?_
    obtain ⟨t10, h⟩ := zc_at h
    obtain ⟨t11, h⟩ := zc_at h
    refine z_asI hx hb hK hW hS (List.mem_singleton.mp t10) t11 dX12_signAt_35 (fun H locs hW hS => ?_)
    refine lv_aload_n hx hb dX12_signAt_36 rfl (lv_at hl 1 rfl) ?_
    refine z_gR hx hb hq hown hK hW fs_RX12_18 t1 hb4 dX12_signAt_37 ?_
    refine lv_iconst (v := (nI 2)) hx hb dX12_signAt_40 (by decide) ?_
    refine lv_aload_n hx hb dX12_signAt_41 rfl (lv_at hl 1 rfl) ?_
    refine z_gR hx hb hq hown hK hW fs_RX12_9 t1 hb7 dX12_signAt_42 ?_
    refine lv_bipush (v := (nI 17)) hx hb dX12_signAt_45 (by decide) ?_
    refine lv_iload_n hx hb dX12_signAt_47 rfl (lv_at hl 0 rfl) ?_
    refine lv_iadd hx hb dX12_signAt_48 ?_
    obtain ⟨t12, h⟩ := zc_at h
    refine z_alI hx hb hK hW (List.mem_singleton.mp t8) t12 dX12_signAt_49 ?_
    obtain ⟨t13, h⟩ := zc_at h
    obtain ⟨t14, h⟩ := zc_at h
    refine z_asI hx hb hK hW hS (List.mem_singleton.mp t13) t14 dX12_signAt_50 (fun H locs hW hS => ?_)
    refine lv_aload_n hx hb dX12_signAt_51 rfl (lv_at hl 1 rfl) ?_
    refine z_gR hx hb hq hown hK hW fs_RX12_18 t1 hb4 dX12_signAt_52 ?_
    refine lv_iconst (v := (nI 3)) hx hb dX12_signAt_55 (by decide) ?_
    refine lv_iload_n hx hb dX12_signAt_56 rfl (lv_at hl 2 rfl) ?_
    refine lv_bipush (v := (nI 10)) hx hb dX12_signAt_57 (by decide) ?_
    refine lv_idiv hx hb dX12_signAt_59 (by decide) ?_
    obtain ⟨t15, h⟩ := zc_at h
    obtain ⟨t16, h⟩ := zc_at h
    refine z_asI hx hb hK hW hS (List.mem_singleton.mp t15) t16 dX12_signAt_60 (fun H locs hW hS => ?_)
    refine lv_aload_n hx hb dX12_signAt_61 rfl (lv_at hl 1 rfl) ?_
    refine z_gR hx hb hq hown hK hW fs_RX12_18 t1 hb4 dX12_signAt_62 ?_
    refine lv_iconst (v := (nI 4)) hx hb dX12_signAt_65 (by decide) ?_
    refine lv_iload_n hx hb dX12_signAt_66 rfl (lv_at hl 2 rfl) ?_
    refine lv_bipush (v := (nI 10)) hx hb dX12_signAt_67 (by decide) ?_
    refine lv_irem hx hb dX12_signAt_69 (by decide) ?_
    obtain ⟨t17, h⟩ := zc_at h
    obtain ⟨t18, h⟩ := zc_at h
    refine z_asI hx hb hK hW hS (List.mem_singleton.mp t17) t18 dX12_signAt_70 (fun H locs hW hS => ?_)
    refine lv_aload_n hx hb dX12_signAt_71 rfl (lv_at hl 1 rfl) ?_
    refine z_gR hx hb hq hown hK hW fs_RX12_18 t1 hb4 dX12_signAt_72 ?_
    refine lv_iconst (v := (nI 5)) hx hb dX12_signAt_75 (by decide) ?_
    refine lv_iload_n hx hb dX12_signAt_76 rfl (lv_at hl 2 rfl) ?_
    refine z_br (lv_if_le (tgt := 99) hx hb dX12_signAt_77 (by decide)) h (fun h => ?_) (fun h => ?_)
    · exact B99 (zPM (zPM (zPM (zPM (zPM st b4 ((nI 0)).toNatClampNeg r3) b4 ((nI 1)).toNatClampNeg (zM (zPM st b4 ((nI 0)).toNatClampNeg r3) b7 (((nI 11) + r3)).toNatClampNeg)) b4 ((nI 2)).toNatClampNeg (zM (zPM (zPM st b4 ((nI 0)).toNatClampNeg r3) b4 ((nI 1)).toNatClampNeg (zM (zPM st b4 ((nI 0)).toNatClampNeg r3) b7 (((nI 11) + r3)).toNatClampNeg)) b7 (((nI 17) + r3)).toNatClampNeg)) b4 ((nI 3)).toNatClampNeg (a1 / (nI 10))) b4 ((nI 4)).toNatClampNeg (a1 - a1 / (nI 10) * (nI 10))) (nI 5) b4 _ _ _ h hW hS (lv_sub hl [1] rfl)
    · refine lv_aload_n hx hb dX12_signAt_80 rfl (lv_at hl 1 rfl) ?_
      refine z_gR hx hb hq hown hK hW fs_RX12_9 t1 hb7 dX12_signAt_81 ?_
      refine lv_bipush (v := (nI 53)) hx hb dX12_signAt_84 (by decide) ?_
      refine lv_iload_n hx hb dX12_signAt_86 rfl (lv_at hl 2 rfl) ?_
      refine lv_iadd hx hb dX12_signAt_87 ?_
      refine lv_iconst (v := (nI 1)) hx hb dX12_signAt_88 (by decide) ?_
      refine lv_isub hx hb dX12_signAt_89 ?_
      obtain ⟨t63, h⟩ := zc_at h
      refine z_alI hx hb hK hW (List.mem_singleton.mp t8) t63 dX12_signAt_90 ?_
      refine lv_iload_n hx hb dX12_signAt_91 rfl (lv_at hl 0 rfl) ?_
      refine z_brn (lv_icmp_ne (tgt := 99) hx hb dX12_signAt_92 (by decide)) h (fun h => ?_) (fun h => ?_)
      · exact B99 (zPM (zPM (zPM (zPM (zPM st b4 ((nI 0)).toNatClampNeg r3) b4 ((nI 1)).toNatClampNeg (zM (zPM st b4 ((nI 0)).toNatClampNeg r3) b7 (((nI 11) + r3)).toNatClampNeg)) b4 ((nI 2)).toNatClampNeg (zM (zPM (zPM st b4 ((nI 0)).toNatClampNeg r3) b4 ((nI 1)).toNatClampNeg (zM (zPM st b4 ((nI 0)).toNatClampNeg r3) b7 (((nI 11) + r3)).toNatClampNeg)) b7 (((nI 17) + r3)).toNatClampNeg)) b4 ((nI 3)).toNatClampNeg (a1 / (nI 10))) b4 ((nI 4)).toNatClampNeg (a1 - a1 / (nI 10) * (nI 10))) (nI 5) b4 _ _ _ h hW hS (lv_sub hl [1] rfl)
      · refine lv_iconst (v := (nI 1)) hx hb dX12_signAt_95 (by decide) ?_
        refine lv_goto (tgt := 100) hx hb dX12_signAt_96 (by decide) ?_
        exact B100 (zPM (zPM (zPM (zPM (zPM st b4 ((nI 0)).toNatClampNeg r3) b4 ((nI 1)).toNatClampNeg (zM (zPM st b4 ((nI 0)).toNatClampNeg r3) b7 (((nI 11) + r3)).toNatClampNeg)) b4 ((nI 2)).toNatClampNeg (zM (zPM (zPM st b4 ((nI 0)).toNatClampNeg r3) b4 ((nI 1)).toNatClampNeg (zM (zPM st b4 ((nI 0)).toNatClampNeg r3) b7 (((nI 11) + r3)).toNatClampNeg)) b7 (((nI 17) + r3)).toNatClampNeg)) b4 ((nI 3)).toNatClampNeg (a1 / (nI 10))) b4 ((nI 4)).toNatClampNeg (a1 - a1 / (nI 10) * (nI 10))) (nI 1) (nI 5) b4 _ _ _ h hW hS (lv_sub hl [1] rfl)
  · refine lv_bipush (v := (nI 100)) hx hb dX12_signAt_11 (by decide) ?_
    obtain ⟨rfl, rfl⟩ := Prod.mk.inj (Option.some.inj h)
    exact z_ri hx hb hr hlk hW hS (Nat.le_of_ble_eq_true rfl) (Nat.le_of_ble_eq_true rfl) dX12_signAt_13
def f_X12_way_93 (N : Nat) (o : Nat) (a1 : Int32) (a2 : Int32) (a3 : Int32)  : Nat → zS → Int32 → Int32 → Option (zS × Int32)
  | 0, _, _, _ => none
  | n93 + 1, st, x4, x5 => (if (nI 4) ≤ x5 then (if zTg st o ∈ [22] then (Option.bind (zR st o 1) (fun b17 => (if zTg st b17 ∈ [1] then (if zin (nI 0) (zLn st b17) then (if zin (nI 0) (zLn st b17) then (some ((zPM st b17 ((nI 0)).toNatClampNeg ((zM st b17 ((nI 0)).toNatClampNeg) + (nI 1))), x4)) else none) else none) else none))) else none) else (if zTg st o ∈ [22] then (Option.bind (zR st o 1) (fun b22 => (if zTg st b22 ∈ [1] then (if zin (((nI 29) + ((nI 4) * x4)) + x5) (zLn st b22) then ((f_X12_way_93 N o a1 a2 a3 n93) (zPM st b22 ((((nI 29) + ((nI 4) * x4)) + x5)).toNatClampNeg (nI 0)) x4 (x5 + (nI 1))) else none) else none))) else none))
def f_X12_way (N : Nat) (st : zS) (o : Nat) (a1 : Int32) (a2 : Int32) (a3 : Int32) : Option (zS × Int32) := (Option.bind (f_X12_in a1 (nI 0) (nI 6)) (fun r2 => (if r2 = 0 then (some (st, (-1 : Int32))) else (Option.bind (f_X12_in a2 (nI 0) (nI 9)) (fun r4 => (if r4 = 0 then (some (st, (-2 : Int32))) else (Option.bind (f_X12_in a3 (nI 1) (nI 60)) (fun r6 => (if r6 = 0 then (some (st, (-2 : Int32))) else (if zTg st o ∈ [22] then (Option.bind (zR st o 1) (fun b8 => (if zTg st b8 ∈ [1] then (if zin (nI 0) (zLn st b8) then (if (zM st b8 ((nI 0)).toNatClampNeg) = (nI 6) then (some (st, (-4 : Int32))) else (if zin (nI 0) (zLn st b8) then (zl (zM st b8 ((nI 0)).toNatClampNeg) (fun v12 => (if zin ((nI 11) + v12) (zLn st b8) then (if zin ((nI 17) + v12) (zLn (zPM st b8 (((nI 11) + v12)).toNatClampNeg a1) b8) then (if zin ((nI 23) + v12) (zLn (zPM (zPM st b8 (((nI 11) + v12)).toNatClampNeg a1) b8 (((nI 17) + v12)).toNatClampNeg a2) b8) then (f_X12_way_93 N o a1 a2 a3 N (zPM (zPM (zPM st b8 (((nI 11) + v12)).toNatClampNeg a1) b8 (((nI 17) + v12)).toNatClampNeg a2) b8 (((nI 23) + v12)).toNatClampNeg a3) v12 (nI 0)) else none) else none) else none))) else none)) else none) else none))) else none))))))))))
set_option maxHeartbeats 1000000 in
set_option maxRecDepth 100000 in
theorem c_X12_way (l : Launch) (G : zG) (N : Nat) (st : zS) (o : Nat) (a1 : Int32) (a2 : Int32) (a3 : Int32) {st' : zS} {r : Int32} (h : f_X12_way N st o a1 a2 a3 = some (st', r)) : zMet l G yX12_way cX12_way 6 (some .int) 1 0 0 [.ref (G.2.2.2 + o), .int a1, .int a2, .int a3] st (some (.int r)) st' := by
  refine zMet_of (by decide +kernel) ?_
  intro p e s m args below meth c X
  obtain ⟨hx, hb, hr, hml, hown, hq, hlk, hK, -, hin, hW, hS⟩ := X
  have hown : s.vm.findClass RX12 = some m.cls := hown
  refine z_ent (by exact Nat.le_of_ble_eq_true rfl) (fun ls hl => ?_)
  have hl : lv_has ls 6 [(0, .ref (G.2.2.2 + o)), (1, .int a1), (2, .int a2), (3, .int a3)] := hl
  unfold f_X12_way at h
  have B93 : ∀ (n93 : Nat) (st : zS) (x4 : Int32) (x5 : Int32) (H : Heap) (locs : List Loc) (ls : Array Slot), f_X12_way_93 N o a1 a2 a3 n93 st x4 x5 = some (st', r) → zWd G st H → va_S (zA G) s.heap H locs → lv_has ls 6 [(0, .ref (G.2.2.2 + o)), (4, .int x4), (5, .int x5)] → W p l e (zRm 1 0 0) s m args below meth c H locs 0 0 (MQ below (zQ G (some (.int r)) st') args s 0 0 (zA G)) (F0 m 93 ls []) := by
    intro n93
    induction n93 with
    | zero =>
      intro st x4 x5 H locs ls h
      unfold f_X12_way_93 at h
      cases h
    | succ n93 ih93 =>
      intro st x4 x5 H locs ls h hW hS hl
      unfold f_X12_way_93 at h
      refine lv_iload hx hb dX12_way_93 (lv_at hl 2 rfl) ?_
      refine lv_iconst (v := (nI 4)) hx hb dX12_way_95 (by decide) ?_
      refine z_br (lv_icmp_ge (tgt := 121) hx hb dX12_way_96 (by decide)) h (fun h => ?_) (fun h => ?_)
      · refine lv_aload_n hx hb dX12_way_121 rfl (lv_at hl 0 rfl) ?_
        obtain ⟨t16, h⟩ := zc_at h
        obtain ⟨b17, hb17, h⟩ := zd_at h
        refine z_gR hx hb hq hown hK hW fs_RX12_9 t16 hb17 dX12_way_122 ?_
        refine lv_iconst (v := (nI 0)) hx hb dX12_way_125 (by decide) ?_
        refine lv_dup2_11 hx hb dX12_way_126 rfl rfl ?_
        obtain ⟨t18, h⟩ := zc_at h
        obtain ⟨t19, h⟩ := zc_at h
        refine z_alI hx hb hK hW (List.mem_singleton.mp t18) t19 dX12_way_127 ?_
        refine lv_iconst (v := (nI 1)) hx hb dX12_way_128 (by decide) ?_
        refine lv_iadd hx hb dX12_way_129 ?_
        obtain ⟨t20, h⟩ := zc_at h
        refine z_asI hx hb hK hW hS (List.mem_singleton.mp t18) t20 dX12_way_130 (fun H locs hW hS => ?_)
        refine lv_iload hx hb dX12_way_131 (lv_at hl 1 rfl) ?_
        obtain ⟨rfl, rfl⟩ := Prod.mk.inj (Option.some.inj h)
        exact z_ri hx hb hr hlk hW hS (Nat.le_of_ble_eq_true rfl) (Nat.le_of_ble_eq_true rfl) dX12_way_133
      · refine lv_aload_n hx hb dX12_way_99 rfl (lv_at hl 0 rfl) ?_
        obtain ⟨t21, h⟩ := zc_at h
        obtain ⟨b22, hb22, h⟩ := zd_at h
        refine z_gR hx hb hq hown hK hW fs_RX12_9 t21 hb22 dX12_way_100 ?_
        refine lv_bipush (v := (nI 29)) hx hb dX12_way_103 (by decide) ?_
        refine lv_iconst (v := (nI 4)) hx hb dX12_way_105 (by decide) ?_
        refine lv_iload hx hb dX12_way_106 (lv_at hl 1 rfl) ?_
        refine lv_imul hx hb dX12_way_108 ?_
        refine lv_iadd hx hb dX12_way_109 ?_
        refine lv_iload hx hb dX12_way_110 (lv_at hl 2 rfl) ?_
        refine lv_iadd hx hb dX12_way_112 ?_
        refine lv_iconst (v := (nI 0)) hx hb dX12_way_113 (by decide) ?_
        obtain ⟨t23, h⟩ := zc_at h
        obtain ⟨t24, h⟩ := zc_at h
        refine z_asI hx hb hK hW hS (List.mem_singleton.mp t23) t24 dX12_way_114 (fun H locs hW hS => ?_)
        refine lv_iinc (v := (x5 + (nI 1))) (lv' := [(5, .int ((x5 + (nI 1)))), (0, .ref (G.2.2.2 + o)), (4, .int x4)]) hx hb dX12_way_115 hl (k := 2) rfl rfl (by decide) rfl (fun ls hl => ?_)
        refine lv_goto (tgt := 93) hx hb dX12_way_118 (by decide) ?_
        exact ih93 (zPM st b22 ((((nI 29) + ((nI 4) * x4)) + x5)).toNatClampNeg (nI 0)) x4 (x5 + (nI 1)) _ _ _ h hW hS (lv_sub hl [1, 2, 0] rfl)
  refine lv_iload_n hx hb dX12_way_0 rfl (lv_at hl 1 rfl) ?_
  refine lv_iconst (v := (nI 0)) hx hb dX12_way_1 (by decide) ?_
  refine lv_bipush (v := (nI 6)) hx hb dX12_way_2 (by decide) ?_
  obtain ⟨r2, c1, h⟩ := zd_at h
  refine z_cS hx hb hq hml hown hK hW hS [.int a1, .int ((nI 0)), .int ((nI 6))] [] (c_X12_in l G st a1 (nI 0) (nI 6) c1) (zi zm90) (zi zm91) (zi zm5) (zi zm92) cal_X12_in rfl hl.1 rfl (Nat.le_of_ble_eq_true rfl) (zR_ok (by omega) (by decide)) ⟨(Nat.le_of_ble_eq_true rfl), (Nat.le_of_ble_eq_true rfl)⟩ dX12_way_4 (fun H locs hW hS => ?_)
  refine W.eq (g2 := F0 m 7 ls [.int r2]) rfl ?_
  refine z_brn (lv_if_ne (tgt := 12) hx hb dX12_way_7 (by decide)) h (fun h => ?_) (fun h => ?_)
  · refine lv_iload_n hx hb dX12_way_12 rfl (lv_at hl 2 rfl) ?_
    refine lv_iconst (v := (nI 0)) hx hb dX12_way_13 (by decide) ?_
    refine lv_bipush (v := (nI 9)) hx hb dX12_way_14 (by decide) ?_
    obtain ⟨r4, c3, h⟩ := zd_at h
    refine z_cS hx hb hq hml hown hK hW hS [.int a2, .int ((nI 0)), .int ((nI 9))] [] (c_X12_in l G st a2 (nI 0) (nI 9) c3) (zi zm90) (zi zm91) (zi zm5) (zi zm92) cal_X12_in rfl hl.1 rfl (Nat.le_of_ble_eq_true rfl) (zR_ok (by omega) (by decide)) ⟨(Nat.le_of_ble_eq_true rfl), (Nat.le_of_ble_eq_true rfl)⟩ dX12_way_16 (fun H locs hW hS => ?_)
    refine W.eq (g2 := F0 m 19 ls [.int r4]) rfl ?_
    refine z_br (lv_if_eq (tgt := 32) hx hb dX12_way_19 (by decide)) h (fun h => ?_) (fun h => ?_)
    · refine lv_bipush (v := (-2)) hx hb dX12_way_32 (by decide) ?_
      obtain ⟨rfl, rfl⟩ := Prod.mk.inj (Option.some.inj h)
      exact z_ri hx hb hr hlk hW hS (Nat.le_of_ble_eq_true rfl) (Nat.le_of_ble_eq_true rfl) dX12_way_34
    · refine lv_iload_n hx hb dX12_way_22 rfl (lv_at hl 3 rfl) ?_
      refine lv_iconst (v := (nI 1)) hx hb dX12_way_23 (by decide) ?_
      refine lv_bipush (v := (nI 60)) hx hb dX12_way_24 (by decide) ?_
      obtain ⟨r6, c5, h⟩ := zd_at h
      refine z_cS hx hb hq hml hown hK hW hS [.int a3, .int ((nI 1)), .int ((nI 60))] [] (c_X12_in l G st a3 (nI 1) (nI 60) c5) (zi zm90) (zi zm91) (zi zm5) (zi zm92) cal_X12_in rfl hl.1 rfl (Nat.le_of_ble_eq_true rfl) (zR_ok (by omega) (by decide)) ⟨(Nat.le_of_ble_eq_true rfl), (Nat.le_of_ble_eq_true rfl)⟩ dX12_way_26 (fun H locs hW hS => ?_)
      refine W.eq (g2 := F0 m 29 ls [.int r6]) rfl ?_
      refine z_brn (lv_if_ne (tgt := 35) hx hb dX12_way_29 (by decide)) h (fun h => ?_) (fun h => ?_)
      · refine lv_aload_n hx hb dX12_way_35 rfl (lv_at hl 0 rfl) ?_
        obtain ⟨t7, h⟩ := zc_at h
        obtain ⟨b8, hb8, h⟩ := zd_at h
        refine z_gR hx hb hq hown hK hW fs_RX12_9 t7 hb8 dX12_way_36 ?_
        refine lv_iconst (v := (nI 0)) hx hb dX12_way_39 (by decide) ?_
        obtain ⟨t9, h⟩ := zc_at h
        obtain ⟨t10, h⟩ := zc_at h
        refine z_alI hx hb hK hW (List.mem_singleton.mp t9) t10 dX12_way_40 ?_
        refine lv_bipush (v := (nI 6)) hx hb dX12_way_41 (by decide) ?_
        refine z_brn (lv_icmp_ne (tgt := 49) hx hb dX12_way_43 (by decide)) h (fun h => ?_) (fun h => ?_)
        · refine lv_aload_n hx hb dX12_way_49 rfl (lv_at hl 0 rfl) ?_
          refine z_gR hx hb hq hown hK hW fs_RX12_9 t7 hb8 dX12_way_50 ?_
          refine lv_iconst (v := (nI 0)) hx hb dX12_way_53 (by decide) ?_
          obtain ⟨t11, h⟩ := zc_at h
          refine z_alI hx hb hK hW (List.mem_singleton.mp t9) t11 dX12_way_54 ?_
          refine lv_topi (fun v12 ev12 => ?_)
          have h := zl_at ev12 h
          refine lv_istore (lv' := [(4, .int v12), (0, .ref (G.2.2.2 + o)), (1, .int a1), (2, .int a2), (3, .int a3)]) hx hb dX12_way_55 hl (by decide) rfl (fun ls hl => ?_)
          refine lv_aload_n hx hb dX12_way_57 rfl (lv_at hl 1 rfl) ?_
          refine z_gR hx hb hq hown hK hW fs_RX12_9 t7 hb8 dX12_way_58 ?_
          refine lv_bipush (v := (nI 11)) hx hb dX12_way_61 (by decide) ?_
          refine lv_iload hx hb dX12_way_63 (lv_at hl 0 rfl) ?_
          refine lv_iadd hx hb dX12_way_65 ?_
          refine lv_iload_n hx hb dX12_way_66 rfl (lv_at hl 2 rfl) ?_
          obtain ⟨t13, h⟩ := zc_at h
          refine z_asI hx hb hK hW hS (List.mem_singleton.mp t9) t13 dX12_way_67 (fun H locs hW hS => ?_)
          refine lv_aload_n hx hb dX12_way_68 rfl (lv_at hl 1 rfl) ?_
          refine z_gR hx hb hq hown hK hW fs_RX12_9 t7 hb8 dX12_way_69 ?_
          refine lv_bipush (v := (nI 17)) hx hb dX12_way_72 (by decide) ?_
          refine lv_iload hx hb dX12_way_74 (lv_at hl 0 rfl) ?_
          refine lv_iadd hx hb dX12_way_76 ?_
          refine lv_iload_n hx hb dX12_way_77 rfl (lv_at hl 3 rfl) ?_
          obtain ⟨t14, h⟩ := zc_at h
          refine z_asI hx hb hK hW hS (List.mem_singleton.mp t9) t14 dX12_way_78 (fun H locs hW hS => ?_)
          refine lv_aload_n hx hb dX12_way_79 rfl (lv_at hl 1 rfl) ?_
          refine z_gR hx hb hq hown hK hW fs_RX12_9 t7 hb8 dX12_way_80 ?_
          refine lv_bipush (v := (nI 23)) hx hb dX12_way_83 (by decide) ?_
          refine lv_iload hx hb dX12_way_85 (lv_at hl 0 rfl) ?_
          refine lv_iadd hx hb dX12_way_87 ?_
          refine lv_iload_n hx hb dX12_way_88 rfl (lv_at hl 4 rfl) ?_
          obtain ⟨t15, h⟩ := zc_at h
          refine z_asI hx hb hK hW hS (List.mem_singleton.mp t9) t15 dX12_way_89 (fun H locs hW hS => ?_)
          refine lv_iconst (v := (nI 0)) hx hb dX12_way_90 (by decide) ?_
          refine lv_istore (lv' := [(5, .int ((nI 0))), (4, .int v12), (0, .ref (G.2.2.2 + o)), (1, .int a1), (2, .int a2), (3, .int a3)]) hx hb dX12_way_91 hl (by decide) rfl (fun ls hl => ?_)
          exact B93 N (zPM (zPM (zPM st b8 (((nI 11) + v12)).toNatClampNeg a1) b8 (((nI 17) + v12)).toNatClampNeg a2) b8 (((nI 23) + v12)).toNatClampNeg a3) v12 (nI 0) _ _ _ h hW hS (lv_sub hl [2, 1, 0] rfl)
        · refine lv_bipush (v := (-4)) hx hb dX12_way_46 (by decide) ?_
          obtain ⟨rfl, rfl⟩ := Prod.mk.inj (Option.some.inj h)
          exact z_ri hx hb hr hlk hW hS (Nat.le_of_ble_eq_true rfl) (Nat.le_of_ble_eq_true rfl) dX12_way_48
      · refine lv_bipush (v := (-2)) hx hb dX12_way_32 (by decide) ?_
        obtain ⟨rfl, rfl⟩ := Prod.mk.inj (Option.some.inj h)
        exact z_ri hx hb hr hlk hW hS (Nat.le_of_ble_eq_true rfl) (Nat.le_of_ble_eq_true rfl) dX12_way_34
  · refine lv_iconst (v := (-1)) hx hb dX12_way_10 (by decide) ?_
    obtain ⟨rfl, rfl⟩ := Prod.mk.inj (Option.some.inj h)
    exact z_ri hx hb hr hlk hW hS (Nat.le_of_ble_eq_true rfl) (Nat.le_of_ble_eq_true rfl) dX12_way_11
def f_X12_twins (st : zS) (o : Nat) (a1 : Int32) (a2 : Int32) : Option Int32 := (if zTg st o ∈ [22] then (Option.bind (zR st o 1) (fun b2 => (if zTg st b2 ∈ [1] then (if zin ((nI 23) + a1) (zLn st b2) then (if zin ((nI 17) + a1) (zLn st b2) then (if zin ((nI 23) + a1) (zLn st b2) then (some (((a2 / (nI 2)) * ((zM st b2 (((nI 23) + a1)).toNatClampNeg) + (zM st b2 (((nI 17) + a1)).toNatClampNeg))) + ((a2 - a2 / (nI 2) * (nI 2)) * (zM st b2 (((nI 23) + a1)).toNatClampNeg)))) else none) else none) else none) else none))) else none)
set_option maxHeartbeats 1000000 in
set_option maxRecDepth 100000 in
theorem c_X12_twins (l : Launch) (G : zG) (st : zS) (o : Nat) (a1 : Int32) (a2 : Int32) {r : Int32} (h : f_X12_twins st o a1 a2 = some r) : zMet l G yX12_twins cX12_twins 3 (some .int) 0 0 0 [.ref (G.2.2.2 + o), .int a1, .int a2] st (some (.int r)) st := by
  refine zMet_of (by decide +kernel) ?_
  intro p e s m args below meth c X
  obtain ⟨hx, hb, hr, hml, hown, hq, hlk, hK, -, hin, hW, hS⟩ := X
  have hown : s.vm.findClass RX12 = some m.cls := hown
  refine z_ent (by exact Nat.le_of_ble_eq_true rfl) (fun ls hl => ?_)
  have hl : lv_has ls 3 [(0, .ref (G.2.2.2 + o)), (1, .int a1), (2, .int a2)] := hl
  unfold f_X12_twins at h
  refine lv_iload_n hx hb dX12_twins_0 rfl (lv_at hl 2 rfl) ?_
  refine lv_iconst (v := (nI 2)) hx hb dX12_twins_1 (by decide) ?_
  refine lv_idiv hx hb dX12_twins_2 (by decide) ?_
  refine lv_aload_n hx hb dX12_twins_3 rfl (lv_at hl 0 rfl) ?_
  obtain ⟨t1, h⟩ := zc_at h
  obtain ⟨b2, hb2, h⟩ := zd_at h
  refine z_gR hx hb hq hown hK hW fs_RX12_9 t1 hb2 dX12_twins_4 ?_
  refine lv_bipush (v := (nI 23)) hx hb dX12_twins_7 (by decide) ?_
  refine lv_iload_n hx hb dX12_twins_9 rfl (lv_at hl 1 rfl) ?_
  refine lv_iadd hx hb dX12_twins_10 ?_
  obtain ⟨t3, h⟩ := zc_at h
  obtain ⟨t4, h⟩ := zc_at h
  refine z_alI hx hb hK hW (List.mem_singleton.mp t3) t4 dX12_twins_11 ?_
  refine lv_aload_n hx hb dX12_twins_12 rfl (lv_at hl 0 rfl) ?_
  refine z_gR hx hb hq hown hK hW fs_RX12_9 t1 hb2 dX12_twins_13 ?_
  refine lv_bipush (v := (nI 17)) hx hb dX12_twins_16 (by decide) ?_
  refine lv_iload_n hx hb dX12_twins_18 rfl (lv_at hl 1 rfl) ?_
  refine lv_iadd hx hb dX12_twins_19 ?_
  obtain ⟨t5, h⟩ := zc_at h
  refine z_alI hx hb hK hW (List.mem_singleton.mp t3) t5 dX12_twins_20 ?_
  refine lv_iadd hx hb dX12_twins_21 ?_
  refine lv_imul hx hb dX12_twins_22 ?_
  refine lv_iload_n hx hb dX12_twins_23 rfl (lv_at hl 2 rfl) ?_
  refine lv_iconst (v := (nI 2)) hx hb dX12_twins_24 (by decide) ?_
  refine lv_irem hx hb dX12_twins_25 (by decide) ?_
  refine lv_aload_n hx hb dX12_twins_26 rfl (lv_at hl 0 rfl) ?_
  refine z_gR hx hb hq hown hK hW fs_RX12_9 t1 hb2 dX12_twins_27 ?_
  refine lv_bipush (v := (nI 23)) hx hb dX12_twins_30 (by decide) ?_
  refine lv_iload_n hx hb dX12_twins_32 rfl (lv_at hl 1 rfl) ?_
  refine lv_iadd hx hb dX12_twins_33 ?_
  obtain ⟨t6, h⟩ := zc_at h
  refine z_alI hx hb hK hW (List.mem_singleton.mp t3) t6 dX12_twins_34 ?_
  refine lv_imul hx hb dX12_twins_35 ?_
  refine lv_iadd hx hb dX12_twins_36 ?_
  obtain rfl := Option.some.inj h
  exact z_ri hx hb hr hlk hW hS (Nat.le_of_ble_eq_true rfl) (Nat.le_of_ble_eq_true rfl) dX12_twins_37
def f_X12_columns (st : zS) (o : Nat) (a1 : Int32) (a2 : Int32) : Option Int32 := (if zTg st o ∈ [22] then (Option.bind (zR st o 1) (fun b2 => (if zTg st b2 ∈ [1] then (if zin ((nI 23) + a1) (zLn st b2) then (if zin ((nI 17) + a1) (zLn st b2) then (some ((a2 * ((zM st b2 (((nI 23) + a1)).toNatClampNeg) / (nI 2))) + (zM st b2 (((nI 17) + a1)).toNatClampNeg))) else none) else none) else none))) else none)
set_option maxHeartbeats 1000000 in
set_option maxRecDepth 100000 in
theorem c_X12_columns (l : Launch) (G : zG) (st : zS) (o : Nat) (a1 : Int32) (a2 : Int32) {r : Int32} (h : f_X12_columns st o a1 a2 = some r) : zMet l G yX12_columns cX12_columns 3 (some .int) 0 0 0 [.ref (G.2.2.2 + o), .int a1, .int a2] st (some (.int r)) st := by
  refine zMet_of (by decide +kernel) ?_
  intro p e s m args below meth c X
  obtain ⟨hx, hb, hr, hml, hown, hq, hlk, hK, -, hin, hW, hS⟩ := X
  have hown : s.vm.findClass RX12 = some m.cls := hown
  refine z_ent (by exact Nat.le_of_ble_eq_true rfl) (fun ls hl => ?_)
  have hl : lv_has ls 3 [(0, .ref (G.2.2.2 + o)), (1, .int a1), (2, .int a2)] := hl
  unfold f_X12_columns at h
  refine lv_iload_n hx hb dX12_columns_0 rfl (lv_at hl 2 rfl) ?_
  refine lv_aload_n hx hb dX12_columns_1 rfl (lv_at hl 0 rfl) ?_
  obtain ⟨t1, h⟩ := zc_at h
  obtain ⟨b2, hb2, h⟩ := zd_at h
  refine z_gR hx hb hq hown hK hW fs_RX12_9 t1 hb2 dX12_columns_2 ?_
  refine lv_bipush (v := (nI 23)) hx hb dX12_columns_5 (by decide) ?_
  refine lv_iload_n hx hb dX12_columns_7 rfl (lv_at hl 1 rfl) ?_
  refine lv_iadd hx hb dX12_columns_8 ?_
  obtain ⟨t3, h⟩ := zc_at h
  obtain ⟨t4, h⟩ := zc_at h
  refine z_alI hx hb hK hW (List.mem_singleton.mp t3) t4 dX12_columns_9 ?_
  refine lv_iconst (v := (nI 2)) hx hb dX12_columns_10 (by decide) ?_
  refine lv_idiv hx hb dX12_columns_11 (by decide) ?_
  refine lv_imul hx hb dX12_columns_12 ?_
  refine lv_aload_n hx hb dX12_columns_13 rfl (lv_at hl 0 rfl) ?_
  refine z_gR hx hb hq hown hK hW fs_RX12_9 t1 hb2 dX12_columns_14 ?_
  refine lv_bipush (v := (nI 17)) hx hb dX12_columns_17 (by decide) ?_
  refine lv_iload_n hx hb dX12_columns_19 rfl (lv_at hl 1 rfl) ?_
  refine lv_iadd hx hb dX12_columns_20 ?_
  obtain ⟨t5, h⟩ := zc_at h
  refine z_alI hx hb hK hW (List.mem_singleton.mp t3) t5 dX12_columns_21 ?_
  refine lv_iadd hx hb dX12_columns_22 ?_
  obtain rfl := Option.some.inj h
  exact z_ri hx hb hr hlk hW hS (Nat.le_of_ble_eq_true rfl) (Nat.le_of_ble_eq_true rfl) dX12_columns_23
def f_X12_byHand_5 (N : Nat) (st : zS) (o : Nat) (a1 : Int32) (a2 : Int32)  : Nat → Int32 → Int32 → Option Int32
  | 0, _, _ => none
  | n5 + 1, x3, x4 => (if a2 ≤ x4 then (some x3) else (if zTg st o ∈ [22] then (Option.bind (zR st o 1) (fun b2 => (if zTg st b2 ∈ [1] then (if zin ((nI 23) + a1) (zLn st b2) then (if zin ((nI 17) + a1) (zLn st b2) then (zl (x3 + ((zM st b2 (((nI 23) + a1)).toNatClampNeg) + ((x4 / (nI 10)) * (zM st b2 (((nI 17) + a1)).toNatClampNeg)))) (fun v6 => ((f_X12_byHand_5 N st o a1 a2 n5) v6 (x4 + (nI 1))))) else none) else none) else none))) else none))
def f_X12_byHand (N : Nat) (st : zS) (o : Nat) (a1 : Int32) (a2 : Int32) : Option Int32 := (f_X12_byHand_5 N st o a1 a2 N (nI 0) (nI 0))
set_option maxHeartbeats 1000000 in
set_option maxRecDepth 100000 in
theorem c_X12_byHand (l : Launch) (G : zG) (N : Nat) (st : zS) (o : Nat) (a1 : Int32) (a2 : Int32) {r : Int32} (h : f_X12_byHand N st o a1 a2 = some r) : zMet l G yX12_byHand cX12_byHand 5 (some .int) 0 0 0 [.ref (G.2.2.2 + o), .int a1, .int a2] st (some (.int r)) st := by
  refine zMet_of (by decide +kernel) ?_
  intro p e s m args below meth c X
  obtain ⟨hx, hb, hr, hml, hown, hq, hlk, hK, -, hin, hW, hS⟩ := X
  have hown : s.vm.findClass RX12 = some m.cls := hown
  refine z_ent (by exact Nat.le_of_ble_eq_true rfl) (fun ls hl => ?_)
  have hl : lv_has ls 5 [(0, .ref (G.2.2.2 + o)), (1, .int a1), (2, .int a2)] := hl
  unfold f_X12_byHand at h
  have B5 : ∀ (n5 : Nat) (x3 : Int32) (x4 : Int32) (H : Heap) (locs : List Loc) (ls : Array Slot), f_X12_byHand_5 N st o a1 a2 n5 x3 x4 = some r → zWd G st H → va_S (zA G) s.heap H locs → lv_has ls 5 [(0, .ref (G.2.2.2 + o)), (1, .int a1), (2, .int a2), (3, .int x3), (4, .int x4)] → W p l e (zRm 0 0 0) s m args below meth c H locs 0 0 (MQ below (zQ G (some (.int r)) st) args s 0 0 (zA G)) (F0 m 5 ls []) := by
    intro n5
    induction n5 with
    | zero =>
      intro x3 x4 H locs ls h
      unfold f_X12_byHand_5 at h
      cases h
    | succ n5 ih5 =>
      intro x3 x4 H locs ls h hW hS hl
      unfold f_X12_byHand_5 at h
      refine lv_iload hx hb dX12_byHand_5 (lv_at hl 4 rfl) ?_
      refine lv_iload_n hx hb dX12_byHand_7 rfl (lv_at hl 2 rfl) ?_
      refine z_br (lv_icmp_ge (tgt := 45) hx hb dX12_byHand_8 (by decide)) h (fun h => ?_) (fun h => ?_)
      · refine lv_iload_n hx hb dX12_byHand_45 rfl (lv_at hl 3 rfl) ?_
        obtain rfl := Option.some.inj h
        exact z_ri hx hb hr hlk hW hS (Nat.le_of_ble_eq_true rfl) (Nat.le_of_ble_eq_true rfl) dX12_byHand_46
      · refine lv_iload_n hx hb dX12_byHand_11 rfl (lv_at hl 3 rfl) ?_
        refine lv_aload_n hx hb dX12_byHand_12 rfl (lv_at hl 0 rfl) ?_
        obtain ⟨t1, h⟩ := zc_at h
        obtain ⟨b2, hb2, h⟩ := zd_at h
        refine z_gR hx hb hq hown hK hW fs_RX12_9 t1 hb2 dX12_byHand_13 ?_
        refine lv_bipush (v := (nI 23)) hx hb dX12_byHand_16 (by decide) ?_
        refine lv_iload_n hx hb dX12_byHand_18 rfl (lv_at hl 1 rfl) ?_
        refine lv_iadd hx hb dX12_byHand_19 ?_
        obtain ⟨t3, h⟩ := zc_at h
        obtain ⟨t4, h⟩ := zc_at h
        refine z_alI hx hb hK hW (List.mem_singleton.mp t3) t4 dX12_byHand_20 ?_
        refine lv_iload hx hb dX12_byHand_21 (lv_at hl 4 rfl) ?_
        refine lv_bipush (v := (nI 10)) hx hb dX12_byHand_23 (by decide) ?_
        refine lv_idiv hx hb dX12_byHand_25 (by decide) ?_
        refine lv_aload_n hx hb dX12_byHand_26 rfl (lv_at hl 0 rfl) ?_
        refine z_gR hx hb hq hown hK hW fs_RX12_9 t1 hb2 dX12_byHand_27 ?_
        refine lv_bipush (v := (nI 17)) hx hb dX12_byHand_30 (by decide) ?_
        refine lv_iload_n hx hb dX12_byHand_32 rfl (lv_at hl 1 rfl) ?_
        refine lv_iadd hx hb dX12_byHand_33 ?_
        obtain ⟨t5, h⟩ := zc_at h
        refine z_alI hx hb hK hW (List.mem_singleton.mp t3) t5 dX12_byHand_34 ?_
        refine lv_imul hx hb dX12_byHand_35 ?_
        refine lv_iadd hx hb dX12_byHand_36 ?_
        refine lv_iadd hx hb dX12_byHand_37 ?_
        refine lv_topi (fun v6 ev6 => ?_)
        have h := zl_at ev6 h
        refine lv_istore_n (lv' := [(3, .int v6), (0, .ref (G.2.2.2 + o)), (1, .int a1), (2, .int a2), (4, .int x4)]) hx hb dX12_byHand_38 rfl hl (by decide) rfl (fun ls hl => ?_)
        refine lv_iinc (v := (x4 + (nI 1))) (lv' := [(4, .int ((x4 + (nI 1)))), (3, .int v6), (0, .ref (G.2.2.2 + o)), (1, .int a1), (2, .int a2)]) hx hb dX12_byHand_39 hl (k := 4) rfl rfl (by decide) rfl (fun ls hl => ?_)
        refine lv_goto (tgt := 5) hx hb dX12_byHand_42 (by decide) ?_
        exact ih5 v6 (x4 + (nI 1)) _ _ _ h hW hS (lv_sub hl [2, 3, 4, 1, 0] rfl)
  refine lv_iconst (v := (nI 0)) hx hb dX12_byHand_0 (by decide) ?_
  refine lv_istore_n (lv' := [(3, .int ((nI 0))), (0, .ref (G.2.2.2 + o)), (1, .int a1), (2, .int a2)]) hx hb dX12_byHand_1 rfl hl (by decide) rfl (fun ls hl => ?_)
  refine lv_iconst (v := (nI 0)) hx hb dX12_byHand_2 (by decide) ?_
  refine lv_istore (lv' := [(4, .int ((nI 0))), (3, .int ((nI 0))), (0, .ref (G.2.2.2 + o)), (1, .int a1), (2, .int a2)]) hx hb dX12_byHand_3 hl (by decide) rfl (fun ls hl => ?_)
  exact B5 N (nI 0) (nI 0) _ _ _ h hW hS (lv_sub hl [2, 3, 4, 1, 0] rfl)
def f_X12_secondsOf (N : Nat) (st : zS) (o : Nat) (a1 : Int32) (a2 : Int32) : Option Int32 := (if a2 = 0 then (some (nI 0)) else (zl ((a2 + (nI 1)) / (nI 2)) (fun v1 => (if zTg st o ∈ [22] then (Option.bind (zR st o 1) (fun b3 => (if zTg st b3 ∈ [1] then (if zin ((nI 11) + a1) (zLn st b3) then (if (zM st b3 (((nI 11) + a1)).toNatClampNeg) = (nI 1) then (Option.bind (f_X12_twins st o a1 a2) (fun r8 => (some r8))) else (if (zM st b3 (((nI 11) + a1)).toNatClampNeg) = (nI 2) then (Option.bind (f_X12_columns st o a1 a2) (fun r11 => (some r11))) else (if (zM st b3 (((nI 11) + a1)).toNatClampNeg) = (nI 3) then (some (nI 0)) else (if (zM st b3 (((nI 11) + a1)).toNatClampNeg) = (nI 4) then (if zin ((nI 23) + a1) (zLn st b3) then (if zin ((nI 17) + a1) (zLn st b3) then (Option.bind (f_X12_twins st o a1 (a2 - a2 / (nI 3) * (nI 3))) (fun r17 => (some (((a2 / (nI 3)) * ((zM st b3 (((nI 23) + a1)).toNatClampNeg) + ((nI 2) * (zM st b3 (((nI 17) + a1)).toNatClampNeg)))) + r17)))) else none) else none) else (if (zM st b3 (((nI 11) + a1)).toNatClampNeg) = (nI 5) then (Option.bind (f_X12_columns st o a1 v1) (fun r20 => (some ((r20 + a2) - v1)))) else (if (zM st b3 (((nI 11) + a1)).toNatClampNeg) = (nI 6) then (if zin (((nI 29) + ((nI 4) * a1)) + (a2 - a2 / (nI 4) * (nI 4))) (zLn st b3) then (some (zM st b3 ((((nI 29) + ((nI 4) * a1)) + (a2 - a2 / (nI 4) * (nI 4)))).toNatClampNeg)) else none) else (Option.bind (f_X12_byHand N st o a1 a2) (fun r24 => (some r24))))))))) else none) else none))) else none))))
set_option maxHeartbeats 1000000 in
set_option maxRecDepth 100000 in
theorem c_X12_secondsOf (l : Launch) (G : zG) (N : Nat) (st : zS) (o : Nat) (a1 : Int32) (a2 : Int32) {r : Int32} (h : f_X12_secondsOf N st o a1 a2 = some r) : zMet l G yX12_secondsOf cX12_secondsOf 4 (some .int) 1 0 0 [.ref (G.2.2.2 + o), .int a1, .int a2] st (some (.int r)) st := by
  refine zMet_of (by decide +kernel) ?_
  intro p e s m args below meth c X
  obtain ⟨hx, hb, hr, hml, hown, hq, hlk, hK, -, hin, hW, hS⟩ := X
  have hown : s.vm.findClass RX12 = some m.cls := hown
  refine z_ent (by exact Nat.le_of_ble_eq_true rfl) (fun ls hl => ?_)
  have hl : lv_has ls 4 [(0, .ref (G.2.2.2 + o)), (1, .int a1), (2, .int a2)] := hl
  unfold f_X12_secondsOf at h
  refine lv_iload_n hx hb dX12_secondsOf_0 rfl (lv_at hl 2 rfl) ?_
  refine z_brn (lv_if_ne (tgt := 6) hx hb dX12_secondsOf_1 (by decide)) h (fun h => ?_) (fun h => ?_)
  · refine lv_iload_n hx hb dX12_secondsOf_6 rfl (lv_at hl 2 rfl) ?_
    refine lv_iconst (v := (nI 1)) hx hb dX12_secondsOf_7 (by decide) ?_
    refine lv_iadd hx hb dX12_secondsOf_8 ?_
    refine lv_iconst (v := (nI 2)) hx hb dX12_secondsOf_9 (by decide) ?_
    refine lv_idiv hx hb dX12_secondsOf_10 (by decide) ?_
    refine lv_topi (fun v1 ev1 => ?_)
    have h := zl_at ev1 h
    refine lv_istore_n (lv' := [(3, .int v1), (0, .ref (G.2.2.2 + o)), (1, .int a1), (2, .int a2)]) hx hb dX12_secondsOf_11 rfl hl (by decide) rfl (fun ls hl => ?_)
    refine lv_aload_n hx hb dX12_secondsOf_12 rfl (lv_at hl 1 rfl) ?_
    obtain ⟨t2, h⟩ := zc_at h
    obtain ⟨b3, hb3, h⟩ := zd_at h
    refine z_gR hx hb hq hown hK hW fs_RX12_9 t2 hb3 dX12_secondsOf_13 ?_
    refine lv_bipush (v := (nI 11)) hx hb dX12_secondsOf_16 (by decide) ?_
    refine lv_iload_n hx hb dX12_secondsOf_18 rfl (lv_at hl 2 rfl) ?_
    refine lv_iadd hx hb dX12_secondsOf_19 ?_
    obtain ⟨t4, h⟩ := zc_at h
    obtain ⟨t5, h⟩ := zc_at h
    refine z_alI hx hb hK hW (List.mem_singleton.mp t4) t5 dX12_secondsOf_20 ?_
    rcases zi_at h with ⟨k6, h⟩ | ⟨k6, h⟩
    · refine lv_tableIn (off := 39) (tgt := 60) hx hb dX12_secondsOf_21 (by rw [k6]; decide) (by rw [k6]; decide) (by rw [k6]; rfl) (by decide) ?_
      refine lv_aload_n hx hb dX12_secondsOf_60 rfl (lv_at hl 1 rfl) ?_
      refine lv_iload_n hx hb dX12_secondsOf_61 rfl (lv_at hl 2 rfl) ?_
      refine lv_iload_n hx hb dX12_secondsOf_62 rfl (lv_at hl 3 rfl) ?_
      obtain ⟨r8, c7, h⟩ := zd_at h
      refine z_cV hx hb hq hml hown hK hW hS 12 [.int a1, .int a2] [] rfl (List.mem_singleton.mp t2) (c_X12_twins l G st o a1 a2 c7) (zi zm556) (zi zm557) (zi zm558) (zi zm5) (zi zm559) cal_X12_twins rfl rfl hl.1 rfl (Nat.le_of_ble_eq_true rfl) (zR_ok (by omega) (by decide)) ⟨(Nat.le_of_ble_eq_true rfl), (Nat.le_of_ble_eq_true rfl)⟩ dX12_secondsOf_63 (fun H locs hW hS => ?_)
      refine W.eq (g2 := F0 m 66 ls [.int r8]) rfl ?_
      obtain rfl := Option.some.inj h
      exact z_ri hx hb hr hlk hW hS (Nat.le_of_ble_eq_true rfl) (Nat.le_of_ble_eq_true rfl) dX12_secondsOf_66
    · rcases zi_at h with ⟨k9, h⟩ | ⟨k9, h⟩
      · refine lv_tableIn (off := 46) (tgt := 67) hx hb dX12_secondsOf_21 (by rw [k9]; decide) (by rw [k9]; decide) (by rw [k9]; rfl) (by decide) ?_
        refine lv_aload_n hx hb dX12_secondsOf_67 rfl (lv_at hl 1 rfl) ?_
        refine lv_iload_n hx hb dX12_secondsOf_68 rfl (lv_at hl 2 rfl) ?_
        refine lv_iload_n hx hb dX12_secondsOf_69 rfl (lv_at hl 3 rfl) ?_
        obtain ⟨r11, c10, h⟩ := zd_at h
        refine z_cV hx hb hq hml hown hK hW hS 12 [.int a1, .int a2] [] rfl (List.mem_singleton.mp t2) (c_X12_columns l G st o a1 a2 c10) (zi zm560) (zi zm561) (zi zm562) (zi zm5) (zi zm563) cal_X12_columns rfl rfl hl.1 rfl (Nat.le_of_ble_eq_true rfl) (zR_ok (by omega) (by decide)) ⟨(Nat.le_of_ble_eq_true rfl), (Nat.le_of_ble_eq_true rfl)⟩ dX12_secondsOf_70 (fun H locs hW hS => ?_)
        refine W.eq (g2 := F0 m 73 ls [.int r11]) rfl ?_
        obtain rfl := Option.some.inj h
        exact z_ri hx hb hr hlk hW hS (Nat.le_of_ble_eq_true rfl) (Nat.le_of_ble_eq_true rfl) dX12_secondsOf_73
      · rcases zi_at h with ⟨k12, h⟩ | ⟨k12, h⟩
        · refine lv_tableIn (off := 53) (tgt := 74) hx hb dX12_secondsOf_21 (by rw [k12]; decide) (by rw [k12]; decide) (by rw [k12]; rfl) (by decide) ?_
          refine lv_iconst (v := (nI 0)) hx hb dX12_secondsOf_74 (by decide) ?_
          obtain rfl := Option.some.inj h
          exact z_ri hx hb hr hlk hW hS (Nat.le_of_ble_eq_true rfl) (Nat.le_of_ble_eq_true rfl) dX12_secondsOf_75
        · rcases zi_at h with ⟨k13, h⟩ | ⟨k13, h⟩
          · refine lv_tableIn (off := 55) (tgt := 76) hx hb dX12_secondsOf_21 (by rw [k13]; decide) (by rw [k13]; decide) (by rw [k13]; rfl) (by decide) ?_
            refine lv_iload_n hx hb dX12_secondsOf_76 rfl (lv_at hl 3 rfl) ?_
            refine lv_iconst (v := (nI 3)) hx hb dX12_secondsOf_77 (by decide) ?_
            refine lv_idiv hx hb dX12_secondsOf_78 (by decide) ?_
            refine lv_aload_n hx hb dX12_secondsOf_79 rfl (lv_at hl 1 rfl) ?_
            refine z_gR hx hb hq hown hK hW fs_RX12_9 t2 hb3 dX12_secondsOf_80 ?_
            refine lv_bipush (v := (nI 23)) hx hb dX12_secondsOf_83 (by decide) ?_
            refine lv_iload_n hx hb dX12_secondsOf_85 rfl (lv_at hl 2 rfl) ?_
            refine lv_iadd hx hb dX12_secondsOf_86 ?_
            obtain ⟨t14, h⟩ := zc_at h
            refine z_alI hx hb hK hW (List.mem_singleton.mp t4) t14 dX12_secondsOf_87 ?_
            refine lv_iconst (v := (nI 2)) hx hb dX12_secondsOf_88 (by decide) ?_
            refine lv_aload_n hx hb dX12_secondsOf_89 rfl (lv_at hl 1 rfl) ?_
            refine z_gR hx hb hq hown hK hW fs_RX12_9 t2 hb3 dX12_secondsOf_90 ?_
            refine lv_bipush (v := (nI 17)) hx hb dX12_secondsOf_93 (by decide) ?_
            refine lv_iload_n hx hb dX12_secondsOf_95 rfl (lv_at hl 2 rfl) ?_
            refine lv_iadd hx hb dX12_secondsOf_96 ?_
            obtain ⟨t15, h⟩ := zc_at h
            refine z_alI hx hb hK hW (List.mem_singleton.mp t4) t15 dX12_secondsOf_97 ?_
            refine lv_imul hx hb dX12_secondsOf_98 ?_
            refine lv_iadd hx hb dX12_secondsOf_99 ?_
            refine lv_imul hx hb dX12_secondsOf_100 ?_
            refine lv_aload_n hx hb dX12_secondsOf_101 rfl (lv_at hl 1 rfl) ?_
            refine lv_iload_n hx hb dX12_secondsOf_102 rfl (lv_at hl 2 rfl) ?_
            refine lv_iload_n hx hb dX12_secondsOf_103 rfl (lv_at hl 3 rfl) ?_
            refine lv_iconst (v := (nI 3)) hx hb dX12_secondsOf_104 (by decide) ?_
            refine lv_irem hx hb dX12_secondsOf_105 (by decide) ?_
            obtain ⟨r17, c16, h⟩ := zd_at h
            refine z_cV hx hb hq hml hown hK hW hS 12 [.int a1, .int ((a2 - a2 / (nI 3) * (nI 3)))] [.int (((a2 / (nI 3)) * ((zM st b3 (((nI 23) + a1)).toNatClampNeg) + ((nI 2) * (zM st b3 (((nI 17) + a1)).toNatClampNeg)))))] rfl (List.mem_singleton.mp t2) (c_X12_twins l G st o a1 (a2 - a2 / (nI 3) * (nI 3)) c16) (zi zm556) (zi zm557) (zi zm558) (zi zm5) (zi zm559) cal_X12_twins rfl rfl hl.1 rfl (Nat.le_of_ble_eq_true rfl) (zR_ok (by omega) (by decide)) ⟨(Nat.le_of_ble_eq_true rfl), (Nat.le_of_ble_eq_true rfl)⟩ dX12_secondsOf_106 (fun H locs hW hS => ?_)
            refine W.eq (g2 := F0 m 109 ls [.int r17, .int (((a2 / (nI 3)) * ((zM st b3 (((nI 23) + a1)).toNatClampNeg) + ((nI 2) * (zM st b3 (((nI 17) + a1)).toNatClampNeg)))))]) rfl ?_
            refine lv_iadd hx hb dX12_secondsOf_109 ?_
            obtain rfl := Option.some.inj h
            exact z_ri hx hb hr hlk hW hS (Nat.le_of_ble_eq_true rfl) (Nat.le_of_ble_eq_true rfl) dX12_secondsOf_110
          · rcases zi_at h with ⟨k18, h⟩ | ⟨k18, h⟩
            · refine lv_tableIn (off := 90) (tgt := 111) hx hb dX12_secondsOf_21 (by rw [k18]; decide) (by rw [k18]; decide) (by rw [k18]; rfl) (by decide) ?_
              refine lv_aload_n hx hb dX12_secondsOf_111 rfl (lv_at hl 1 rfl) ?_
              refine lv_iload_n hx hb dX12_secondsOf_112 rfl (lv_at hl 2 rfl) ?_
              refine lv_iload_n hx hb dX12_secondsOf_113 rfl (lv_at hl 0 rfl) ?_
              obtain ⟨r20, c19, h⟩ := zd_at h
              refine z_cV hx hb hq hml hown hK hW hS 12 [.int a1, .int v1] [] rfl (List.mem_singleton.mp t2) (c_X12_columns l G st o a1 v1 c19) (zi zm560) (zi zm561) (zi zm562) (zi zm5) (zi zm563) cal_X12_columns rfl rfl hl.1 rfl (Nat.le_of_ble_eq_true rfl) (zR_ok (by omega) (by decide)) ⟨(Nat.le_of_ble_eq_true rfl), (Nat.le_of_ble_eq_true rfl)⟩ dX12_secondsOf_114 (fun H locs hW hS => ?_)
              refine W.eq (g2 := F0 m 117 ls [.int r20]) rfl ?_
              refine lv_iload_n hx hb dX12_secondsOf_117 rfl (lv_at hl 3 rfl) ?_
              refine lv_iadd hx hb dX12_secondsOf_118 ?_
              refine lv_iload_n hx hb dX12_secondsOf_119 rfl (lv_at hl 0 rfl) ?_
              refine lv_isub hx hb dX12_secondsOf_120 ?_
              obtain rfl := Option.some.inj h
              exact z_ri hx hb hr hlk hW hS (Nat.le_of_ble_eq_true rfl) (Nat.le_of_ble_eq_true rfl) dX12_secondsOf_121
            · rcases zi_at h with ⟨k21, h⟩ | ⟨k21, h⟩
              · refine lv_tableIn (off := 101) (tgt := 122) hx hb dX12_secondsOf_21 (by rw [k21]; decide) (by rw [k21]; decide) (by rw [k21]; rfl) (by decide) ?_
                refine lv_aload_n hx hb dX12_secondsOf_122 rfl (lv_at hl 1 rfl) ?_
                refine z_gR hx hb hq hown hK hW fs_RX12_9 t2 hb3 dX12_secondsOf_123 ?_
                refine lv_bipush (v := (nI 29)) hx hb dX12_secondsOf_126 (by decide) ?_
                refine lv_iconst (v := (nI 4)) hx hb dX12_secondsOf_128 (by decide) ?_
                refine lv_iload_n hx hb dX12_secondsOf_129 rfl (lv_at hl 2 rfl) ?_
                refine lv_imul hx hb dX12_secondsOf_130 ?_
                refine lv_iadd hx hb dX12_secondsOf_131 ?_
                refine lv_iload_n hx hb dX12_secondsOf_132 rfl (lv_at hl 3 rfl) ?_
                refine lv_iconst (v := (nI 4)) hx hb dX12_secondsOf_133 (by decide) ?_
                refine lv_irem hx hb dX12_secondsOf_134 (by decide) ?_
                refine lv_iadd hx hb dX12_secondsOf_135 ?_
                obtain ⟨t22, h⟩ := zc_at h
                refine z_alI hx hb hK hW (List.mem_singleton.mp t4) t22 dX12_secondsOf_136 ?_
                obtain rfl := Option.some.inj h
                exact z_ri hx hb hr hlk hW hS (Nat.le_of_ble_eq_true rfl) (Nat.le_of_ble_eq_true rfl) dX12_secondsOf_137
              · refine lv_tableOut (tgt := 138) hx hb dX12_secondsOf_21 (by have q0 := lv_neT (a := 1) k6 (by decide); have q1 := lv_neT (a := 2) k9 (by decide); have q2 := lv_neT (a := 3) k12 (by decide); have q3 := lv_neT (a := 4) k13 (by decide); have q4 := lv_neT (a := 5) k18 (by decide); have q5 := lv_neT (a := 6) k21 (by decide); omega) (by decide) ?_
                refine lv_aload_n hx hb dX12_secondsOf_138 rfl (lv_at hl 1 rfl) ?_
                refine lv_iload_n hx hb dX12_secondsOf_139 rfl (lv_at hl 2 rfl) ?_
                refine lv_iload_n hx hb dX12_secondsOf_140 rfl (lv_at hl 3 rfl) ?_
                obtain ⟨r24, c23, h⟩ := zd_at h
                refine z_cV hx hb hq hml hown hK hW hS 12 [.int a1, .int a2] [] rfl (List.mem_singleton.mp t2) (c_X12_byHand l G N st o a1 a2 c23) (zi zm564) (zi zm565) (zi zm566) (zi zm5) (zi zm567) cal_X12_byHand rfl rfl hl.1 rfl (Nat.le_of_ble_eq_true rfl) (zR_ok (by omega) (by decide)) ⟨(Nat.le_of_ble_eq_true rfl), (Nat.le_of_ble_eq_true rfl)⟩ dX12_secondsOf_141 (fun H locs hW hS => ?_)
                refine W.eq (g2 := F0 m 144 ls [.int r24]) rfl ?_
                obtain rfl := Option.some.inj h
                exact z_ri hx hb hr hlk hW hS (Nat.le_of_ble_eq_true rfl) (Nat.le_of_ble_eq_true rfl) dX12_secondsOf_144
  · refine lv_iconst (v := (nI 0)) hx hb dX12_secondsOf_4 (by decide) ?_
    obtain rfl := Option.some.inj h
    exact z_ri hx hb hr hlk hW hS (Nat.le_of_ble_eq_true rfl) (Nat.le_of_ble_eq_true rfl) dX12_secondsOf_5
